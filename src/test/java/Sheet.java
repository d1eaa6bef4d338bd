/** An object with a text typed into it, and short ways to tell what it answers. */
final class Sheet {
    private static final String LETTERS = "DQLIHFP.TESCK";
    final Marktongue tongue = new Marktongue();

    Sheet(String text) {
        type(text);
    }

    void type(String text) {
        tongue.clear();
        for (int place = 0; place < text.length(); place++) {
            tongue.put(place, text.charAt(place));
        }
    }

    String text() {
        StringBuilder all = new StringBuilder();
        for (int place = 0; place < tongue.length(); place++) {
            all.append((char) tongue.character(place));
        }
        return all.toString();
    }

    /** What is printed to target 0: {, the letter of the kind, its number, a colon, what is within, }. */
    String shown() {
        StringBuilder all = new StringBuilder();
        for (int place = 0; place < tongue.print(0); place++) {
            int number = tongue.printed(0, place);
            if (number >= 2000) {
                all.append('}');
            } else if (number >= 1000) {
                int kind = number - 1000;
                all.append('{').append(LETTERS.charAt(kind));
                if (kind == Marktongue.HEADING || kind == Marktongue.LIST || kind == Marktongue.LINK) {
                    place++;
                    all.append(tongue.printed(0, place));
                }
                all.append(':');
            } else {
                all.append((char) number);
            }
        }
        return all.toString();
    }

    String plain() {
        StringBuilder all = new StringBuilder();
        for (int place = 0; place < tongue.print(1); place++) {
            all.append((char) tongue.printed(1, place));
        }
        return all.toString();
    }

    /** The letters of the kinds, as the nodes are numbered. */
    String kinds() {
        StringBuilder all = new StringBuilder();
        for (int node = 0; node < tongue.nodes(); node++) {
            all.append(LETTERS.charAt(tongue.node(node, 0)));
        }
        return all.toString();
    }

    /** Of each node what is told under that number. */
    String told(int what) {
        StringBuilder all = new StringBuilder();
        for (int node = 0; node < tongue.nodes(); node++) {
            all.append(node == 0 ? "" : " ").append(tongue.node(node, what));
        }
        return all.toString();
    }

    String owners() {
        StringBuilder all = new StringBuilder();
        for (int place = 0; place < tongue.length(); place++) {
            all.append(place == 0 ? "" : " ").append(tongue.owner(place));
        }
        return all.toString();
    }

    static String shownOf(String text) {
        return new Sheet(text).shown();
    }

    /** What is within the first block, if that is a PARAGRAPH. */
    static String inlineOf(String text) {
        String shown = shownOf(text);
        int depth = 0;
        for (int place = 6; place < shown.length() && shown.startsWith("{D:{P:"); place++) {
            depth += shown.charAt(place) == '{' ? 1 : shown.charAt(place) == '}' ? -1 : 0;
            if (depth < 0) {
                return shown.substring(6, place);
            }
        }
        return shown;
    }
}
