/**
 * Terms: "Where two exceptions apply, the one that is listed first is thrown; a call that throws changes nothing."
 * Each call of the face with arguments at both sides of each bound, on an empty, a short and a full text:
 * it throws what the document lists, or nothing, and a refused call leaves all answers as they were.
 */
public final class RefusalTest {
    private static final int LEAST = Integer.MIN_VALUE;
    private static final int MOST = Integer.MAX_VALUE;
    private static final String NOTHING = "nothing";
    private static final String PLACE = "java.lang.IndexOutOfBoundsException";
    private static final String ARGUMENT = "java.lang.IllegalArgumentException";
    private static final String STATE = "java.lang.IllegalStateException";
    private static final int[] CHARACTERS = {LEAST, -10, -1, 0, 9, 10, 11, 31, 32, 33, 125, 126, 127, 128, 266, 288, 65546, MOST};
    private static final int[] FEW = {LEAST, -2, -1, 0, 1, 2, 3, 4, 12, 13, 14, MOST};

    private final Sheet sheet;
    private final Tongue tongue;
    private final String name;
    private final String before;

    private RefusalTest(String name, Sheet sheet) {
        this.name = name;
        this.sheet = sheet;
        this.tongue = sheet.tongue;
        this.before = all(sheet);
    }

    public static void main(String[] args) {
        new RefusalTest("new", new Sheet(new Tongue())).calls();
        Sheet emptied = new Sheet("> a\n# b");
        emptied.tongue.keep(1);
        emptied.tongue.clear();
        new RefusalTest("emptied", emptied).calls();
        Sheet shortText = new Sheet("- [a]\n\n  *b*\n[a]: t");
        shortText.tongue.keep(0);
        shortText.type("- [a]\n\n  *b*\n> c\n[a]: t");
        shortText.tongue.keep(1);
        shortText.type("# a `d`\n- [a]\n\n  *b*\n[a]: t");
        new RefusalTest("short", shortText).calls();
        new RefusalTest("one below full", new Sheet("a\n".repeat(119) + "b")).calls();
        Sheet full = new Sheet("> [a]" + "\n".repeat(110) + "*b* ".repeat(28) + "c# a\n- [a]: d");
        Due.same("full", full.tongue.length(), 240);
        new RefusalTest("full", full).calls();
        Due.finish("RefusalTest");
    }

    private static String all(Sheet sheet) {
        return sheet.everything() + "|" + sheet.kept(0) + "|" + sheet.kept(1) + "|" + sheet.merged();
    }

    private void calls() {
        changes();
        questions();
        targets();
        slots();
    }

    /** Each side of 0, of the size, and of the number of characters that a text can have. */
    private static int[] around(int size) {
        return new int[] {LEAST, -2, -1, 0, 1, size - 1, size, size + 1, 239, 240, 241, MOST};
    }

    private void is(String call, String due, Tongue.Call made) {
        Tongue other = tongue.fork();
        String got = NOTHING;
        try {
            other.call(made);
        } catch (RuntimeException thrown) {
            got = thrown.getClass().getName();
        }
        Due.same(name + ": " + call + " throws", got, due);
        if (!got.equals(NOTHING)) {
            Due.same(name + ": all behind " + call, all(new Sheet(other)), before);
        }
    }

    private void changes() {
        int length = tongue.length();
        for (int place : around(length)) {
            for (int character : CHARACTERS) {
                boolean isOne = character == 10 || character >= 32 && character <= 126;
                String due = place < 0 || place > length ? PLACE : !isOne ? ARGUMENT : length == 240 ? STATE : NOTHING;
                is("put(" + place + ", " + character + ")", due, made -> made.put(place, character));
            }
            int left = length - place;
            for (int many : new int[] {LEAST, -1, 0, 1, 2, left - 1, left, left + 1, 240, 241, MOST}) {
                boolean isPlace = place >= 0 && place < length;
                String due = !isPlace ? PLACE : many < 1 || many > left ? ARGUMENT : NOTHING;
                is("take(" + place + ", " + many + ")", due, made -> made.take(place, many));
            }
        }
    }

    private void questions() {
        int length = tongue.length();
        for (int place : around(length)) {
            String due = place < 0 || place >= length ? PLACE : NOTHING;
            is("character(" + place + ")", due, made -> made.character(place));
            is("owner(" + place + ")", due, made -> made.owner(place));
        }
        int nodes = tongue.nodes();
        for (int node : around(nodes)) {
            boolean isNode = node >= 0 && node < nodes;
            for (int what : FEW) {
                String due = !isNode ? PLACE : what < 0 || what > 3 ? ARGUMENT : NOTHING;
                is("node(" + node + ", " + what + ")", due, made -> made.node(node, what));
            }
            int children = isNode ? tongue.node(node, 2) : 0;
            for (int place : around(children)) {
                String due = place < 0 || place >= children ? PLACE : NOTHING;
                is("child(" + node + ", " + place + ")", due, made -> made.child(node, place));
            }
            leads(node, isNode);
        }
        leads(2, 2 < nodes);
        leads(nodes / 2, true);
        for (int kind : FEW) {
            is("count(" + kind + ")", kind < 0 || kind > 12 ? ARGUMENT : NOTHING, made -> made.count(kind));
        }
    }

    private void leads(int node, boolean isNode) {
        String due = !isNode ? PLACE : tongue.node(node, 0) != Marktongue.LINK ? STATE : NOTHING;
        is("leads(" + node + ")", due, made -> made.leads(node));
    }

    private void targets() {
        for (int target : FEW) {
            boolean isTarget = target == 0 || target == 1;
            is("print(" + target + ")", isTarget ? NOTHING : ARGUMENT, made -> made.print(target));
            int many = isTarget ? tongue.print(target) : 0;
            for (int place : around(many)) {
                String due = !isTarget ? ARGUMENT : place < 0 || place >= many ? PLACE : NOTHING;
                is("printed(" + target + ", " + place + ")", due, made -> made.printed(target, place));
            }
        }
    }

    private void slots() {
        for (int slot : FEW) {
            String due = slot == 0 || slot == 1 ? NOTHING : ARGUMENT;
            is("keep(" + slot + ")", due, made -> made.keep(slot));
            is("load(" + slot + ")", due, made -> made.load(slot));
        }
        is("length()", NOTHING, made -> made.length());
        is("clear()", NOTHING, made -> made.clear());
        is("nodes()", NOTHING, made -> made.nodes());
        is("format()", NOTHING, made -> made.format());
        is("merge()", NOTHING, made -> made.merge());
    }
}
