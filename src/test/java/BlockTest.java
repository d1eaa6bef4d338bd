/** Promises 7 to 12 for blocks: which there are, what is told of them, and which characters they have. */
public final class BlockTest {
    private static final Class<IndexOutOfBoundsException> PLACE = IndexOutOfBoundsException.class;
    private static final Class<IllegalArgumentException> ARGUMENT = IllegalArgumentException.class;

    public static void main(String[] args) {
        plainBlocks();
        headings();
        quotes();
        items();
        markers();
        fences();
        lazyLines();
        definitions();
        blankLines();
        looseLists();
        tellings();
        children();
        owners();
        counts();
        largest();
        Due.finish("BlockTest");
    }

    private static void shown(String text, String want) {
        Due.same("7 " + text.replace("\n", "/"), Sheet.shownOf(text), want);
    }

    private static void plainBlocks() {
        shown("", "{D:}");
        shown("\n \n", "{D:}");
        shown("a", "{D:{P:a}}");
        shown("  a  \n   b", "{D:{P:a\nb}}");
        shown("a\n\nb", "{D:{P:a}{P:b}}");
        shown("a\n  \nb\n", "{D:{P:a}{P:b}}");
    }

    private static void headings() {
        shown("# a\n##  b  \n### c", "{D:{H101:a}{H102:b}{H103:c}}");
        shown("#\n##  ", "{D:{H101:}{H102:}}");
        shown("#### a", "{D:{P:#### a}}");
        shown("#a", "{D:{P:#a}}");
        shown(" # a", "{D:{P:# a}}");
        shown("a\n# b\nc", "{D:{P:a}{H101:b}{P:c}}");
        shown("# # a #", "{D:{H101:# a #}}");
    }

    private static void quotes() {
        shown("> a\n>b", "{D:{Q:{P:a\nb}}}");
        shown(">> a\n> > b", "{D:{Q:{Q:{P:a\nb}}}}");
        shown(">  ~~~\n> a", "{D:{Q:{P:~~~\na}}}");
        shown("> a\n\n> b", "{D:{Q:{P:a}}{Q:{P:b}}}");
        shown("> a\n>\n> b", "{D:{Q:{P:a}{P:b}}}");
        shown(" > a", "{D:{P:> a}}");
        shown(">", "{D:{Q:}}");
        shown("a\n> b", "{D:{P:a}{Q:{P:b}}}");
        shown("> > a\n> # b", "{D:{Q:{Q:{P:a}}{H101:b}}}");
        shown("> a\n> > b", "{D:{Q:{P:a}{Q:{P:b}}}}");
    }

    private static void items() {
        shown("- a\n  b\n- c", "{D:{L0:{I:{P:a\nb}}{I:{P:c}}}}");
        shown("1. a\n   # b\n  # c", "{D:{L0:{I:{P:a}{H101:b}}}{P:# c}}");
        shown("- a\n # b", "{D:{L0:{I:{P:a\n# b}}}}");
        shown("- # a\n - b", "{D:{L0:{I:{H101:a}}}{P:- b}}");
        shown("- - a\n  - b", "{D:{L0:{I:{L0:{I:{P:a}}{I:{P:b}}}}}}");
        shown("- > a\n  > b", "{D:{L0:{I:{Q:{P:a\nb}}}}}");
        shown("> - a\n> - b", "{D:{Q:{L0:{I:{P:a}}{I:{P:b}}}}}");
        shown("-   a", "{D:{L0:{I:{P:a}}}}");
        shown("- a\n> b\n- c", "{D:{L0:{I:{P:a}}}{Q:{P:b}}{L0:{I:{P:c}}}}");
        shown("- a\n# b\n- c", "{D:{L0:{I:{P:a}}}{H101:b}{L0:{I:{P:c}}}}");
        shown("a\n- b", "{D:{P:a}{L0:{I:{P:b}}}}");
    }

    private static void markers() {
        shown("- a\n+ b\n1. c\n7. d\n- e", "{D:{L0:{I:{P:a}}}{L0:{I:{P:b}}}{L0:{I:{P:c}}{I:{P:d}}}{L0:{I:{P:e}}}}");
        shown("-\n+\n1.", "{D:{L0:{I:}}{L0:{I:}}{L0:{I:}}}");
        shown("-a\n+b\n1.c\n1 d\n10. e", "{D:{P:-a\n+b\n1.c\n1 d\n10. e}}");
        shown("- \n  a", "{D:{L0:{I:{P:a}}}}");
        shown("--", "{D:{P:--}}");
        shown("9. a", "{D:{L0:{I:{P:a}}}}");
        shown("/. a\n:. b\na. c\n1) d\n* e", "{D:{P:/. a\n:. b\na. c\n1) d\n* e}}");
        shown("0. - + a", "{D:{L0:{I:{L0:{I:{L0:{I:{P:a}}}}}}}}");
    }

    private static void fences() {
        shown("~~~\n a \n\n# b\n~~~  \nc", "{D:{F: a \n\n# b\n}{P:c}}");
        shown("~~~\na\n", "{D:{F:a\n\n}}");
        shown("~~~", "{D:{F:}}");
        shown("~~~~\n~~", "{D:{P:~~~~\n~~}}");
        shown("a\n~~~\n~~~\nb", "{D:{P:a}{F:}{P:b}}");
        shown(" ~~~", "{D:{P:~~~}}");
        shown("x~~\n~x~\n~~x\n~~~ x", "{D:{P:x~~\n~x~\n~~x\n~~~ x}}");
        shown("~~~ \n ~~~\n~~~x\n~~~", "{D:{F: ~~~\n~~~x\n}}");
        shown("> ~~~\n> a\n>   b\nc", "{D:{Q:{F:a\n  b\n}}{P:c}}");
        shown("> ~~~\n\n> a", "{D:{Q:{F:}}{Q:{P:a}}}");
        shown("- ~~~\n  a\n\n     \n  > b\n  ~~~\n  c", "{D:{L0:{I:{F:a\n\n\n> b\n}{P:c}}}}");
        shown("- ~~~\n a", "{D:{L0:{I:{F:}}}{P:a}}");
    }

    private static void lazyLines() {
        shown("> a\nb\n> c", "{D:{Q:{P:a\nb\nc}}}");
        shown("- a\nb\n  c", "{D:{L0:{I:{P:a\nb\nc}}}}");
        shown("> > a\n> b\nc", "{D:{Q:{Q:{P:a\nb\nc}}}}");
        shown("> - a\nb", "{D:{Q:{L0:{I:{P:a\nb}}}}}");
        shown("> # a\nb", "{D:{Q:{H101:a}}{P:b}}");
        shown("> a\n~~~", "{D:{Q:{P:a}}{F:}}");
        shown("> a\n\nb", "{D:{Q:{P:a}}{P:b}}");
        shown("> a\n[b]: c", "{D:{Q:{P:a\n[b]: c}}}");
    }

    private static void definitions() {
        String none = "{D:}";
        shown("[a]: t", none);
        shown("[aB3dEf]:   12345678   ", none);
        shown("[aB3dEfg]: t", "{D:{P:[aB3dEfg]: t}}");
        shown("[a]: 123456789", "{D:{P:[a]: 123456789}}");
        shown("[a]:t", "{D:{P:[a]:t}}");
        shown("(a]: t\n[a): t\n[a]; t", "{D:{P:(a]: t\n[a): t\n[a]; t}}");
        shown("[a): t", "{D:{P:[a): t}}");
        shown("[a]; t", "{D:{P:[a]; t}}");
        shown("[a]: ", "{D:{P:[a]:}}");
        shown("[]: t", "{D:{P:[]: t}}");
        shown("[a]: t u", "{D:{P:[a]: t u}}");
        shown("[a]: t.", "{D:{P:[a]: t.}}");
        shown("[a.]: t", "{D:{P:[a.]: t}}");
        shown(" [a]: t", "{D:{P:[a]: t}}");
        shown("b\n[a]: t", "{D:{P:b\n[a]: t}}");
        shown("> [a]: t\nb", "{D:{Q:}{P:b}}");
        Due.same("7 definitions", new Sheet("[a]: t\n[a]: u\n- [b]: v").kinds(), "D..LI.");
    }

    private static void blankLines() {
        shown("- a\n\n  b\n\nc", "{D:{L1:{I:{P:a}{P:b}}}{P:c}}");
        shown("-\n\n  a", "{D:{L0:{I:{P:a}}}}");
        shown("> a\n> \nb", "{D:{Q:{P:a}}{P:b}}");
        shown("> > a\n>\n> b", "{D:{Q:{Q:{P:a}}{P:b}}}");
        shown("- > a\n\n  > b", "{D:{L1:{I:{Q:{P:a}}{Q:{P:b}}}}}");
    }

    private static void looseLists() {
        shown("- a\n- b\n\nc", "{D:{L0:{I:{P:a}}{I:{P:b}}}{P:c}}");
        shown("- a\n\n- b", "{D:{L1:{I:{P:a}}{I:{P:b}}}}");
        shown("- a\n  # b", "{D:{L0:{I:{P:a}{H101:b}}}}");
        shown("- a\n\n  - b", "{D:{L1:{I:{P:a}{L0:{I:{P:b}}}}}}");
        shown("- a\n  - b\n\n  - c", "{D:{L0:{I:{P:a}{L1:{I:{P:b}}{I:{P:c}}}}}}");
        shown("- a\n  - b\n\n- c", "{D:{L1:{I:{P:a}{L0:{I:{P:b}}}}{I:{P:c}}}}");
        shown("- a\n\n  > b", "{D:{L1:{I:{P:a}{Q:{P:b}}}}}");
        shown("- > a\n  >\n  > b", "{D:{L0:{I:{Q:{P:a}{P:b}}}}}");
        shown("- > a\n  >\n- b", "{D:{L1:{I:{Q:{P:a}}}{I:{P:b}}}}");
        shown("> - a\n>\n> - b", "{D:{Q:{L1:{I:{P:a}}{I:{P:b}}}}}");
        shown("> - a\n\n> - b", "{D:{Q:{L0:{I:{P:a}}}}{Q:{L0:{I:{P:b}}}}}");
        shown("- a\n-\n- b", "{D:{L0:{I:{P:a}}{I:}{I:{P:b}}}}");
        shown("- a\n-\n\n- b", "{D:{L1:{I:{P:a}}{I:}{I:{P:b}}}}");
        shown("- ~~~\n\n  ~~~\n- a", "{D:{L0:{I:{F:\n}}{I:{P:a}}}}");
        shown("- ~~~\n\n- a", "{D:{L0:{I:{F:\n}}{I:{P:a}}}}");
        shown("- a\n\n\n- b", "{D:{L1:{I:{P:a}}{I:{P:b}}}}");
        shown("\n- a\n- b", "{D:{L0:{I:{P:a}}{I:{P:b}}}}");
        shown("- a\n\n+ b", "{D:{L0:{I:{P:a}}}{L0:{I:{P:b}}}}");
        shown("- # a\n\n  [x]: t", "{D:{L1:{I:{H101:a}}}}");
    }

    private static void tellings() {
        Sheet sheet = new Sheet("## a`bc`\n1. x\n\n   ~~~\n   y\n\n   ~~~\n> [q]: z");
        Due.same("8 kinds", sheet.kinds(), "DHTCLIPTFQ.");
        Due.same("8 0", sheet.told(0), "0 4 8 11 2 3 6 8 5 1 7");
        Due.same("8 1", sheet.told(1), "-1 0 1 1 0 4 5 6 5 0 9");
        Due.same("8 2", sheet.told(2), "3 2 0 0 1 2 1 0 0 1 0");
        Due.same("8 3", sheet.told(3), "0 2 1 2 1 3 0 1 2 0 0");
        for (int node : new int[] {-1, 11, Integer.MAX_VALUE, Integer.MIN_VALUE}) {
            Due.raises("8 node " + node, PLACE, () -> sheet.tongue.node(node, 0));
            Due.raises("8 node ahead of what " + node, PLACE, () -> sheet.tongue.node(node, 4));
        }
        for (int what : new int[] {-1, 4, Integer.MAX_VALUE, Integer.MIN_VALUE}) {
            Due.raises("8 what " + what, ARGUMENT, () -> sheet.tongue.node(0, what));
        }
        Due.same("7 nodes", sheet.tongue.nodes(), 11);
        Due.same("8 widths", new Sheet("- + 1. a").told(3), "0 0 2 0 2 0 3 0 1");
    }

    private static void children() {
        Sheet sheet = new Sheet("- a\n- b\n\nc");
        Due.same("9 kinds", sheet.kinds(), "DLIPTIPTPT");
        Due.same("9 first", sheet.tongue.child(0, 0), 1);
        Due.same("9 second", sheet.tongue.child(0, 1), 8);
        Due.same("9 item", sheet.tongue.child(1, 1), 5);
        Due.same("9 text", sheet.tongue.child(6, 0), 7);
        for (int node : new int[] {-1, 10, Integer.MAX_VALUE, Integer.MIN_VALUE}) {
            Due.raises("9 node " + node, PLACE, () -> sheet.tongue.child(node, 0));
        }
        for (int place : new int[] {-1, 2, Integer.MAX_VALUE, Integer.MIN_VALUE}) {
            Due.raises("9 place " + place, PLACE, () -> sheet.tongue.child(0, place));
        }
        Due.raises("9 of a text", PLACE, () -> sheet.tongue.child(4, 0));
    }

    private static void owned(String text, String want) {
        Due.same("10 " + text.replace("\n", "/"), new Sheet(text).owners(), want);
    }

    private static void owners() {
        owned("# a\n", "1 1 1 1");
        owned(" a \n\n", "1 1 1 1 0");
        owned(">  a\nb", "1 1 2 2 2 2");
        owned("> > a\n> b", "1 1 2 2 3 3 1 1 3");
        owned("- a\n\n  b", "2 2 3 3 2 2 2 5");
        owned("1.   ", "2 2 2 2 2");
        owned("- - a\n   \nb", "2 2 4 4 5 5 2 2 2 4 7");
        owned("- a\n b", "2 2 3 3 3 3");
        owned("- ~~~\n     \n   x\n  ~~~\n", "2 2 3 3 3 3 2 2 2 2 2 3 2 2 3 3 3 2 2 3 3 3 3");
        owned("~~~\n  \n~~~\n  \n", "1 1 1 1 1 1 1 1 1 1 1 0 0 0");
        owned("> ~~~\n\n", "1 1 2 2 2 2 0");
        owned("> a\n>  \nb", "1 1 2 2 1 1 1 1 4");
        owned("[a]: t \nb", "1 1 1 1 1 1 1 1 2");
        owned("[a][t]\n# t*x*\nb", "1 1 1 1 1 1 1 3 3 3 3 3 3 3 7");
        Sheet sheet = new Sheet("a");
        for (int place : new int[] {-1, 1, Integer.MAX_VALUE, Integer.MIN_VALUE}) {
            Due.raises("10 place " + place, PLACE, () -> sheet.tongue.owner(place));
        }
    }

    private static void counts() {
        Sheet sheet = new Sheet("# a\n> *b* **c** `d`\n- [a]\n- e\n~~~\n~~~\n[f]: g");
        int[] want = {1, 1, 1, 2, 1, 1, 3, 1, 7, 1, 1, 1, 1};
        for (int kind = 0; kind < want.length; kind++) {
            Due.same("12 kind " + kind, sheet.tongue.count(kind), want[kind]);
        }
        for (int kind : new int[] {-1, 13, Integer.MAX_VALUE, Integer.MIN_VALUE}) {
            Due.raises("12 kind " + kind, ARGUMENT, () -> sheet.tongue.count(kind));
        }
    }

    /** The trees with most nodes and levels, and the longest prints. */
    private static void largest() {
        Due.same("7 quotes", new Sheet(">".repeat(240)).tongue.nodes(), 241);
        Sheet items = new Sheet("- ".repeat(119) + "+");
        Due.same("7 items", items.tongue.nodes(), 241);
        Due.same("7 innermost", items.tongue.owner(238), 240);
        Due.same("13 items", items.tongue.print(0), 2 * 241 + 120);
        Due.same("7 lists", new Sheet("-\n+\n".repeat(60)).tongue.count(Marktongue.LIST), 120);
        Due.same("7 headings", new Sheet("#\n".repeat(120)).tongue.print(0), 2 + 3 * 120);
        Due.same("7 fence lines", new Sheet("~~~" + "\n".repeat(237)).tongue.print(1), 237);
        Due.same("7 line ends", new Sheet("\n".repeat(240)).tongue.nodes(), 1);
        Due.same("7 runs", new Sheet("*a".repeat(120)).tongue.count(Marktongue.EMPHASIS), 60);
    }
}
