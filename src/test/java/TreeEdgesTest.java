/** Promises 7 to 12, sentence by sentence, at the ends of what each lets be asked and answered. */
public final class TreeEdgesTest {
    private static final Class<IndexOutOfBoundsException> PLACE = IndexOutOfBoundsException.class;
    private static final Class<IllegalStateException> STATE = IllegalStateException.class;
    /** A text with a node of each kind. */
    private static final String ALL_KINDS = "# a\n> *b* **c** `d`\n- [e]\n~~~\nf\n~~~\n[e]: g";
    private static final String ALL_KINDS_SHOWN = "DHTQPETTSTTCLIPKTF.";

    public static void main(String[] args) {
        nodes();
        kinds();
        parents();
        children();
        measures();
        measuresAtTheEnds();
        childless();
        ownersOfMarkers();
        ownersOfRests();
        ownersOfBlankRests();
        ownersOfLineEnds();
        ownersAtTheEnds();
        leads();
        noLinks();
        counts();
        Due.finish("TreeEdgesTest");
    }

    private static void nodes() {
        Due.same("the empty text", new Sheet("").tongue.nodes(), 1);
        Due.same("a blank", new Sheet(" ").tongue.nodes(), 1);
        Due.same("a line end", new Sheet("\n").tongue.nodes(), 1);
        Due.same("one character", new Sheet("a").tongue.nodes(), 3);
        Due.same("one marker", new Sheet("-").tongue.nodes(), 3);
        Due.same("full of blanks", new Sheet(" ".repeat(240)).tongue.nodes(), 1);
        Due.same("full of line ends", new Sheet("\n".repeat(240)).tongue.nodes(), 1);
        Due.same("full of letters", new Sheet("a".repeat(240)).tongue.nodes(), 3);
        Due.same("full of QUOTEs", new Sheet(">".repeat(239) + "a").tongue.nodes(), 242);
        Due.same("full of ITEMs", new Sheet(">" + "- ".repeat(119) + "-").tongue.nodes(), 242);
    }

    private static void kinds() {
        Sheet sheet = new Sheet(ALL_KINDS);
        Due.same("kinds", sheet.kinds(), ALL_KINDS_SHOWN);
        Due.same("first", sheet.tongue.node(0, 0), Marktongue.DOCUMENT);
        Due.same("last", sheet.tongue.node(18, 0), Marktongue.DEFINITION);
        Due.raises("one more", PLACE, () -> sheet.tongue.node(19, 0));
        Due.raises("one less", PLACE, () -> sheet.tongue.node(-1, 0));
    }

    /** "1 its parent, or NONE" */
    private static void parents() {
        Due.same("of the DOCUMENT", new Sheet("").tongue.node(0, 1), Marktongue.NONE);
        Due.same("of all", new Sheet(ALL_KINDS).told(1), "-1 0 1 0 3 4 5 4 4 8 4 4 0 12 13 14 15 0 0");
        Due.same("of the innermost", new Sheet(">".repeat(240)).tongue.node(240, 1), 239);
    }

    /** "2 how many children it has", and promise 9: "0 for the first one" */
    private static void children() {
        Sheet sheet = new Sheet(ALL_KINDS);
        Due.same("how many", sheet.told(2), "5 1 0 1 5 1 0 0 1 0 0 0 1 1 1 1 0 0 0");
        Due.same("of the DOCUMENT", sheet.children(0), "1 3 12 17 18");
        Due.same("of the PARAGRAPH", sheet.children(4), "5 7 8 10 11");
        for (int node = 0; node < 19; node++) {
            int asked = node;
            int many = sheet.tongue.node(node, 2);
            Due.raises("one more of " + node, PLACE, () -> sheet.tongue.child(asked, many));
            Due.raises("one less of " + node, PLACE, () -> sheet.tongue.child(asked, -1));
        }
        Sheet headings = new Sheet("#\n".repeat(120));
        Due.same("many", headings.tongue.node(0, 2), 120);
        Due.same("the first one", headings.tongue.child(0, 0), 1);
        Due.same("the last one", headings.tongue.child(0, 119), 120);
        Due.raises("behind the last one", PLACE, () -> headings.tongue.child(0, 120));
    }

    /** What is told under 3 of each kind, "otherwise 0". */
    private static void measures() {
        Due.same("of all kinds", new Sheet(ALL_KINDS).told(3), "0 1 1 0 0 0 1 1 0 1 1 1 0 2 0 0 1 1 0");
        Due.same("of no node", new Sheet("").tongue.node(0, 3), 0);
    }

    private static void measuresAtTheEnds() {
        Due.same("levels", new Sheet("# a\n## b\n### c").told(3), "0 1 1 2 1 3 1");
        Due.same("a text of one", new Sheet("a").tongue.node(2, 3), 1);
        Due.same("a full text", new Sheet("a".repeat(240)).tongue.node(2, 3), 240);
        Due.same("a text with a line end", new Sheet("a \n b").tongue.node(2, 3), 3);
        Due.same("a CODE of one", new Sheet("`a`").tongue.node(2, 3), 1);
        Due.same("the longest CODE", new Sheet("`" + "a".repeat(238) + "`").tongue.node(2, 3), 238);
        Due.same("no lines", new Sheet("~~~\n~~~").tongue.node(1, 3), 0);
        Due.same("an empty line", new Sheet("~~~\n\n~~~").tongue.node(1, 3), 1);
        Due.same("most lines", new Sheet("~~~" + "\n".repeat(237)).tongue.node(1, 3), 237);
        Due.same("LISTs", new Sheet("- a\n- b").tongue.node(1, 3) + 2 * new Sheet("- a\n\n- b").tongue.node(1, 3), 2);
        Due.same("ITEMs", new Sheet("- a\n+ b\n1. c").told(3), "0 0 2 0 1 0 2 0 1 0 3 0 1");
    }

    private static void childless() {
        Sheet sheet = new Sheet("a `b`\n>\n-\n#\n~~~\nc\n~~~\n[d]: e");
        Due.same("kinds", sheet.kinds(), "DPTCQLIHF.");
        Due.same("how many", sheet.told(2), "6 2 0 0 0 1 0 0 0 0");
        for (int node : new int[] {2, 3, 4, 6, 7, 8, 9}) {
            Due.raises("first child of " + node, PLACE, () -> sheet.tongue.child(node, 0));
        }
        Due.raises("first child of an empty DOCUMENT", PLACE, () -> new Tongue().child(0, 0));
    }

    private static void owned(String text, String want) {
        Due.same(text.replace("\n", "/"), new Sheet(text).owners(), want);
    }

    /** "of a marker, and the blanks that are taken off with it or as an ITEM goes on, the container" */
    private static void ownersOfMarkers() {
        owned("> a", "1 1 2");
        owned(">a", "1 2");
        owned(">  a", "1 1 2 2");
        owned("- a", "2 2 3");
        owned("-  a", "2 2 3 3");
        owned("1. a", "2 2 2 3");
        owned("> - 1. a", "1 1 3 3 5 5 5 6");
        owned("# a\n> b\n> c", "1 1 1 1 3 3 4 4 3 3 4");
        owned("- a\n  b", "2 2 3 3 2 2 3");
        owned("- a\n   b", "2 2 3 3 2 2 3 3");
        owned("- a\n b", "2 2 3 3 3 3");
        owned("1. a\n   b", "2 2 2 3 3 2 2 2 3");
        owned("- - a\n    b", "2 2 4 4 5 5 2 2 4 4 5");
        owned("- - a\n   b", "2 2 4 4 5 5 2 2 5 5");
        owned("- a\n- b", "2 2 3 3 5 5 6");
    }

    /** "of a rest the block that has it" */
    private static void ownersOfRests() {
        owned(" a ", "1 1 1");
        owned("## a ", "1 1 1 1 1");
        owned("~~~ \n a\n~~~ ", "1 1 1 1 1 1 1 1 1 1 1 1");
        owned("[a]:  t ", "1 1 1 1 1 1 1 1");
        owned("*a* `b`", "1 1 1 1 1 1 1");
        owned("> a\n b", "1 1 2 2 2 2");
        owned("> ~~~\n>  a", "1 1 2 2 2 2 1 1 2 2");
        owned("- ~~~\n   a", "2 2 3 3 3 3 2 2 3 3");
    }

    /** "of a blank rest that is no line of a FENCE the innermost container that goes on, or was put in, a LIST not counting as one" */
    private static void ownersOfBlankRests() {
        owned("   ", "0 0 0");
        owned("> a\n   ", "1 1 2 2 0 0 0");
        owned("> a\n>   ", "1 1 2 2 1 1 1 1");
        owned(">   ", "1 1 1 1");
        owned("-   ", "2 2 2 2");
        owned("> -   ", "1 1 3 3 3 3");
        owned("- a\n   ", "2 2 3 3 2 2 2");
        owned("- > a\n   ", "2 2 3 3 4 4 2 2 2");
        owned("- - a\n   \n", "2 2 4 4 5 5 2 2 2 4");
        owned("> > a\n>   ", "1 1 2 2 3 3 1 1 1 1");
        owned("~~~\n   ", "1 1 1 1 1 1 1");
        owned("~~~\n~~~\n   ", "1 1 1 1 1 1 1 1 0 0 0");
        owned("> ~~~\n   ", "1 1 2 2 2 2 0 0 0");
    }

    /** "of a line end the same as what is told for the rest of its line" */
    private static void ownersOfLineEnds() {
        owned("\n", "0");
        owned("a\n\n", "1 1 0");
        owned("#\n", "1 1");
        owned(">\n>\n", "1 1 1 1");
        owned("-\n\n", "2 2 2");
        owned("> a\nb\n\n", "1 1 2 2 2 2 0");
        owned("- - a\n\n", "2 2 4 4 5 5 4");
        owned("~~~\n\n~~~\n\n", "1 1 1 1 1 1 1 1 1 0");
        owned("[a]: t\n\n", "1 1 1 1 1 1 1 0");
        owned("- ~~~\n\n", "2 2 3 3 3 3 3");
        owned("> - a\n>\n", "1 1 3 3 4 4 1 3");
    }

    private static void ownersAtTheEnds() {
        Sheet full = new Sheet("> " + "a".repeat(237) + "\n");
        Due.same("first", full.tongue.owner(0), 1);
        Due.same("last", full.tongue.owner(239), 2);
        Due.raises("behind the last", PLACE, () -> full.tongue.owner(240));
        Due.raises("of the empty text", PLACE, () -> new Tongue().owner(0));
        Due.same("the innermost", new Sheet(">".repeat(240)).tongue.owner(239), 240);
    }

    /** "Returns to which node a LINK leads." */
    private static void leads() {
        Sheet sheet = new Sheet("[a] [b][c] [d]\n\n[c]: t\n> # d\n> [a]: u\n\n[a]: v");
        Due.same("kinds", sheet.kinds(), "DPKTTKTTKT.QHT..");
        Due.same("ways", sheet.ways(), "14 10 12");
        Due.same("to itself", new Sheet("# [a]").ways(), "1");
        Due.same("to the first node", new Sheet("[a]: t\n[a]").tongue.leads(3), 1);
        Due.same("far away", new Sheet("[a]\n" + "\n".repeat(229) + "[a]: t").tongue.leads(2), 4);
    }

    private static void noLinks() {
        Sheet sheet = new Sheet(ALL_KINDS);
        for (int node = 0; node < 19; node++) {
            int asked = node;
            if (node == 15) {
                Due.same("the LINK", sheet.tongue.leads(node), 18);
            } else {
                Due.raises("no LINK " + node, STATE, () -> sheet.tongue.leads(asked));
            }
        }
        Due.raises("of the empty text", STATE, () -> new Tongue().leads(0));
        Due.raises("behind the last one", PLACE, () -> sheet.tongue.leads(19));
    }

    private static void counts() {
        Due.same("none", new Sheet("").counts(), "1 0 0 0 0 0 0 0 0 0 0 0 0");
        Due.same("all", new Sheet(ALL_KINDS).counts(), "1 1 1 1 1 1 2 1 6 1 1 1 1");
        Due.same("most LISTs", new Sheet("- ".repeat(119) + "-").counts(), "1 0 120 120 0 0 0 0 0 0 0 0 0");
        Due.same("most HEADINGs", new Sheet("#\n".repeat(119) + "#").counts(), "1 0 0 0 120 0 0 0 0 0 0 0 0");
        Due.same("most DEFINITIONs", new Sheet("[a]: t\n".repeat(34)).counts(), "1 0 0 0 0 0 0 34 0 0 0 0 0");
        Due.same("most FENCEs", new Sheet("~~~\n".repeat(60)).counts(), "1 0 0 0 0 30 0 0 0 0 0 0 0");
    }
}
