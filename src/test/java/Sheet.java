import java.util.function.IntUnaryOperator;

/** An object with a text typed into it, and short ways to tell what it answers. */
final class Sheet {
    private static final String LETTERS = "DQLIHFP.TESCK";
    final Tongue tongue;

    Sheet(String text) {
        this(new Tongue());
        type(text);
    }

    Sheet(Tongue tongue) {
        this.tongue = tongue;
    }

    /** Makes that the text: puts in and takes out what is not the same at both ends. */
    void type(String text) {
        String before = text();
        int least = Math.min(before.length(), text.length());
        int ahead = 0;
        while (ahead < least && before.charAt(ahead) == text.charAt(ahead)) {
            ahead++;
        }
        int behind = 0;
        while (behind < least - ahead && before.charAt(before.length() - 1 - behind) == text.charAt(text.length() - 1 - behind)) {
            behind++;
        }
        if (before.length() > ahead + behind) {
            tongue.take(ahead, before.length() - ahead - behind);
        }
        for (int place = ahead; place < text.length() - behind; place++) {
            tongue.put(place, text.charAt(place));
        }
    }

    String text() {
        StringBuilder all = new StringBuilder();
        int size = tongue.length();
        for (int place = 0; place < size; place++) {
            all.append((char) tongue.character(place));
        }
        return all.toString();
    }

    /** What is printed to target 0: {, the letter of the kind, its number, a colon, what is within, }. */
    String shown() {
        return shown(0, tongue.print(0));
    }

    private String shown(int from, int end) {
        StringBuilder all = new StringBuilder();
        for (int place = from; place < end; place++) {
            int number = tongue.printed(0, place);
            if (number >= 2000) {
                all.append('}');
            } else if (number >= 1000) {
                int kind = number - 1000;
                all.append('{').append(LETTERS.charAt(kind));
                if (kind == Marktongue.HEADING || kind == Marktongue.LIST || kind == Marktongue.LINK) {
                    place++;
                    all.append(tongue.printed(0, place));
                }
                all.append(':');
            } else {
                all.append((char) number);
            }
        }
        return all.toString();
    }

    String plain() {
        StringBuilder all = new StringBuilder();
        int size = tongue.print(1);
        for (int place = 0; place < size; place++) {
            all.append((char) tongue.printed(1, place));
        }
        return all.toString();
    }

    /** The letters of the kinds, as the nodes are numbered. */
    String kinds() {
        StringBuilder all = new StringBuilder();
        int size = tongue.nodes();
        for (int node = 0; node < size; node++) {
            all.append(LETTERS.charAt(tongue.node(node, 0)));
        }
        return all.toString();
    }

    /** Of each node what is told under that number. */
    String told(int what) {
        return listed(tongue.nodes(), node -> tongue.node(node, what));
    }

    String owners() {
        return listed(tongue.length(), tongue::owner);
    }

    String children(int node) {
        return listed(tongue.node(node, 2), place -> tongue.child(node, place));
    }

    String counts() {
        return listed(LETTERS.length(), tongue::count);
    }

    String numbers(int target) {
        return listed(tongue.print(target), place -> tongue.printed(target, place));
    }

    /** To which nodes the LINKs lead. */
    String ways() {
        StringBuilder all = new StringBuilder();
        int size = tongue.nodes();
        for (int node = 0; node < size; node++) {
            if (tongue.node(node, 0) == Marktongue.LINK) {
                all.append(all.length() == 0 ? "" : " ").append(tongue.leads(node));
            }
        }
        return all.toString();
    }

    /** All that can be asked of the text and its tree. */
    String everything() {
        StringBuilder all = new StringBuilder(text());
        for (int what = 0; what < 4; what++) {
            all.append("|").append(told(what));
        }
        int size = tongue.nodes();
        for (int node = 0; node < size; node++) {
            all.append("|").append(children(node));
        }
        return all + "|" + owners() + "|" + ways() + "|" + counts() + "|" + numbers(0) + "|" + numbers(1);
    }

    /** What is kept in a slot. */
    String kept(int slot) {
        Sheet other = new Sheet(tongue.fork());
        return other.tongue.load(slot) + " " + other.text();
    }

    /** What merging would answer, and the text then. */
    String merged() {
        Sheet other = new Sheet(tongue.fork());
        return other.tongue.merge() + " " + other.text();
    }

    private static String listed(int many, IntUnaryOperator answers) {
        StringBuilder all = new StringBuilder();
        for (int place = 0; place < many; place++) {
            all.append(place == 0 ? "" : " ").append(answers.applyAsInt(place));
        }
        return all.toString();
    }

    static String shownOf(String text) {
        return new Sheet(text).shown();
    }

    /** What is within the first block, which has to be a PARAGRAPH. */
    static String inlineOf(String text) {
        Sheet sheet = new Sheet(text);
        int size = sheet.tongue.print(0);
        if (size < 4 || sheet.tongue.printed(0, 1) != 1000 + Marktongue.PARAGRAPH) {
            return "no PARAGRAPH";
        }
        int end = 2;
        while (sheet.tongue.printed(0, end) != 2000 + Marktongue.PARAGRAPH) {
            end++;
        }
        return sheet.shown(2, end);
    }
}
