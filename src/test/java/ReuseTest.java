/**
 * Terms: "The tree is what the text is now." An object that was used for one text answers for the next one
 * as a new object does, whichever call made the next one, and whichever question is asked first.
 */
public final class ReuseTest {
    private static final String[] TEXTS = {
        "",
        "\n\n",
        "a",
        "a *b **c** d* `e` \\* f",
        "*a* b*c**d",
        "# [a] *b*\n[x]\n#\n## a",
        "> - + 1. a\nb\n\n> c",
        "- a\n\n- b\n-\n  - c",
        "1. a\n\n   b\n2. c",
        "~~~\n a\n\n~~~ \nb",
        "> ~~~\n> a\n>",
        "[a]: t\n[b]: u\n- [a]\n- [c][b]",
        "[b][a] *[a*] **\n\n[a]: t",
        "a  \n \n\n \nb\n\n",
        "***a*** `b`` c` [d",
        "x****a*b**c",
        "[a] [b] [c][x] [A1]",
        "# A1\n+ [d]: t",
    };

    public static void main(String[] args) {
        for (String first : TEXTS) {
            for (String next : TEXTS) {
                trees(first, next);
                slots(first, next);
                merges(first, next);
            }
        }
        longMerges();
        changes();
        Due.finish("ReuseTest");
    }

    private static String named(String first, String next) {
        return (first + "|" + next).replace("\n", "/");
    }

    private static void trees(String first, String next) {
        Sheet sheet = new Sheet(first);
        sheet.tongue.growTree();
        sheet.type(next);
        Due.same("tree of " + named(first, next), sheet.everything(), new Sheet(next).everything());
        sheet.tongue.growTree();
        int went = sheet.tongue.format();
        Sheet other = new Sheet(next);
        Due.same("formatted " + named(first, next), went, other.tongue.format());
        Due.same("formatted " + named(first, next), sheet.everything(), other.everything());
    }

    private static void slots(String first, String next) {
        Sheet sheet = new Sheet(first);
        sheet.tongue.keep(0);
        sheet.tongue.growTree();
        sheet.type(next);
        sheet.tongue.keep(1);
        sheet.tongue.growTree();
        Due.same("load 0 of " + named(first, next), sheet.tongue.load(0), first.length());
        Due.same("loaded 0 of " + named(first, next), sheet.everything(), new Sheet(first).everything());
        Due.same("load 1 of " + named(first, next), sheet.tongue.load(1), next.length());
        Due.same("loaded 1 of " + named(first, next), sheet.everything(), new Sheet(next).everything());
    }

    /** A merge behind one that made a text, one that found conflicts, and one that would be too long. */
    private static void merges(String first, String next) {
        Sheet sheet = new Sheet(first);
        sheet.tongue.keep(0);
        sheet.type("x" + first);
        sheet.tongue.keep(1);
        sheet.type("y\n" + first + "\nz");
        sheet.tongue.merge();
        sheet.type(first + "a");
        sheet.tongue.merge();
        sheet.type(first);
        sheet.tongue.keep(1);
        sheet.type(next);
        sheet.tongue.growTree();
        Due.same("merge " + named(first, next), sheet.tongue.merge(), 0);
        Due.same("merged " + named(first, next), sheet.everything(), new Sheet(next).everything());
    }

    /** A merge counts the characters that it takes, and none of an earlier one. */
    private static void longMerges() {
        Sheet sheet = new Sheet("a".repeat(200));
        sheet.tongue.keep(0);
        sheet.tongue.keep(1);
        for (int time = 0; time < 5; time++) {
            Due.same("merge " + time, sheet.tongue.merge() + " " + sheet.tongue.length(), "0 200");
        }
        sheet.type("b\n" + "a".repeat(200));
        sheet.tongue.keep(1);
        sheet.type("a".repeat(200) + "\n" + "c".repeat(38));
        Due.same("too long", sheet.tongue.merge(), Marktongue.FAILED);
        Due.same("too long again", sheet.tongue.merge(), Marktongue.FAILED);
        sheet.tongue.take(200, 2);
        Due.same("a conflict", sheet.tongue.merge(), 1);
        sheet.tongue.load(0);
        Due.same("no longer too long", sheet.tongue.merge() + " " + sheet.tongue.length(), "0 202");
    }

    /** Every call that changes the text, and behind each every question as the first one. */
    private static void changes() {
        String before = "[a]: t\n[b]\n\n- *c*\n- d";
        follows("put", before, "# [a]: t\n[b]\n\n- *c*\n- d", made -> made.put(0, '#') + made.put(1, ' '));
        follows("take", before, "]: t\n[b]\n\n- *c*\n- d", made -> made.take(0, 2));
        follows("clear", before, "", made -> made.clear());
        follows("format", "a \n\n\n[b]\n\n# b", "a\n\n[b]\n\n# b", made -> made.format());
        follows("load", before, "", made -> made.load(1));
        follows("merge", before, "", made -> made.keep(0) + made.merge());
    }

    private static void follows(String name, String before, String after, Tongue.Call change) {
        Sheet due = new Sheet(after);
        int nodes = due.tongue.nodes();
        for (int target = 0; target < 2; target++) {
            int asked = target;
            follows(name + ", print", before, change, made -> made.print(asked), due);
            for (int place = 0; place < due.tongue.print(target); place++) {
                int there = place;
                follows(name + ", printed " + place, before, change, made -> made.printed(asked, there), due);
            }
        }
        follows(name + ", nodes", before, change, made -> made.nodes(), due);
        for (int kind = 0; kind <= Marktongue.LINK; kind++) {
            int asked = kind;
            follows(name + ", count " + kind, before, change, made -> made.count(asked), due);
        }
        for (int place = 0; place < after.length(); place++) {
            int there = place;
            follows(name + ", owner " + place, before, change, made -> made.owner(there), due);
        }
        for (int node = 0; node < nodes; node++) {
            nodeFollows(name, before, change, node, due);
        }
    }

    private static void nodeFollows(String name, String before, Tongue.Call change, int node, Sheet due) {
        for (int what = 0; what < 4; what++) {
            int told = what;
            follows(name + ", node " + node + " " + what, before, change, made -> made.node(node, told), due);
        }
        for (int place = 0; place < due.tongue.node(node, 2); place++) {
            int there = place;
            follows(name + ", child " + node + " " + place, before, change, made -> made.child(node, there), due);
        }
        if (due.tongue.node(node, 0) == Marktongue.LINK) {
            follows(name + ", leads " + node, before, change, made -> made.leads(node), due);
        }
    }

    private static void follows(String name, String before, Tongue.Call change, Tongue.Call question, Sheet due) {
        Sheet sheet = new Sheet(before);
        sheet.tongue.growTree();
        sheet.tongue.call(change);
        String got;
        try {
            got = "" + sheet.tongue.call(question);
        } catch (RuntimeException thrown) {
            got = thrown.getClass().getName();
        }
        Due.same("first question behind " + name, got, "" + due.tongue.call(question));
    }
}
