/** Promises 13 to 15 and "Targets, format", sentence by sentence. */
public final class TargetEdgesTest {
    private static final Class<IndexOutOfBoundsException> PLACE = IndexOutOfBoundsException.class;

    public static void main(String[] args) {
        eachKind();
        told();
        definitions();
        fences();
        plain();
        firstAndLast();
        longest();
        blanksAtEnds();
        blankLinesAtBothEnds();
        blankLinesInARow();
        fenceLinesStay();
        fenceInContainers();
        fullTexts();
        atRest();
        Due.finish("TargetEdgesTest");
    }

    private static void printed(String text, String marked, String plain) {
        Sheet sheet = new Sheet(text);
        String name = text.replace("\n", "/");
        Due.same(name + " to target 0", sheet.numbers(0), marked);
        Due.same(name + " to target 1", sheet.numbers(1), plain);
    }

    /** "for a node that is no text, 1000 and its kind, together; ... then what is within; then 2000 and its kind, together" */
    private static void eachKind() {
        printed("", "1000 2000", "");
        printed(">", "1000 1001 2001 2000", "");
        printed("-", "1000 1002 0 1003 2003 2002 2000", "");
        printed("#", "1000 1004 101 2004 2000", "10");
        printed("~~~", "1000 1005 2005 2000", "");
        printed("a", "1000 1006 97 2006 2000", "97 10");
        printed("*a*", "1000 1006 1009 97 2009 2006 2000", "97 10");
        printed("**a**", "1000 1006 1010 97 2010 2006 2000", "97 10");
        printed("`a`", "1000 1006 1011 97 2011 2006 2000", "97 10");
        printed("[][x]\n#", "1000 1006 1012 400 2012 2006 1004 101 2004 2000", "10 10");
        printed("~ \n!", "1000 1006 126 10 33 2006 2000", "126 10 33 10");
    }

    /** "of a HEADING 100 and its level, of a LIST 1 if it is loose, otherwise 0, of a LINK 300 and ..., or ... 400 and ..." */
    private static void told() {
        printed("## a", "1000 1004 102 97 2004 2000", "97 10");
        printed("###", "1000 1004 103 2004 2000", "10");
        printed("-\n\n-", "1000 1002 1 1003 2003 1003 2003 2002 2000", "");
        printed("-\n-", "1000 1002 0 1003 2003 1003 2003 2002 2000", "");
        printed("[a]: t\n[a]", "1000 1006 1012 300 97 2012 2006 2000", "97 10");
        printed("> [a]: t\n\n[b]: t\n[b]", "1000 1001 2001 1006 1012 301 98 2012 2006 2000", "98 10");
        printed("[b]: t\n# a\n[a]", "1000 1004 101 97 2004 1006 1012 400 97 2012 2006 2000", "97 10 97 10");
        printed("> #\n# a\n[a]", "1000 1001 1004 101 2004 2001 1004 101 97 2004 1006 1012 401 97 2012 2006 2000", "10 97 10 97 10");
        printed("# a\n[b]: t\n[b]: t\n[c]: t\n[c]", "1000 1004 101 97 2004 1006 1012 302 99 2012 2006 2000", "97 10 99 10");
    }

    /** "A DEFINITION gives nothing." */
    private static void definitions() {
        printed("[a]: t", "1000 2000", "");
        printed("> [a]: t", "1000 1001 2001 2000", "");
        printed("- [a]: t\n\n  [b]: t", "1000 1002 1 1003 2003 2002 2000", "");
        printed("# b\n[a]: t\nc", "1000 1004 101 98 2004 1006 99 2006 2000", "98 10 99 10");
    }

    /** "lines of a FENCE with a 10 behind each" */
    private static void fences() {
        printed("~~~\n~~~", "1000 1005 2005 2000", "");
        printed("~~~\n\n~~~", "1000 1005 10 2005 2000", "10");
        printed("~~~\n", "1000 1005 10 2005 2000", "10");
        printed("~~~\na\n b \n~~~ ", "1000 1005 97 10 32 98 32 10 2005 2000", "97 10 32 98 32 10");
        printed("> ~~~\n>  *a*", "1000 1001 1005 32 42 97 42 10 2005 2001 2000", "32 42 97 42 10");
    }

    /** "Target 1 has the characters alone, and a 10 behind each PARAGRAPH, HEADING and line of a FENCE." */
    private static void plain() {
        Due.same("all", new Sheet("# a\n> *b* \\* `c`\nd\n- [e][f]\n~~~\ng\n\n~~~\n[f]: h").plain(), "a\nb * c\nd\ne\ng\n\n");
        Due.same("containers give nothing", new Sheet(">\n-\n> - +").plain(), "");
        Due.same("an empty LINK", new Sheet("[][x]\n#").plain(), "\n\n");
    }

    private static void firstAndLast() {
        Sheet sheet = new Sheet("a");
        Due.same("how many", sheet.tongue.print(0) * 10 + sheet.tongue.print(1), 52);
        Due.same("first to target 0", sheet.tongue.printed(0, 0), 1000);
        Due.same("last to target 0", sheet.tongue.printed(0, 4), 2000);
        Due.same("first to target 1", sheet.tongue.printed(1, 0), 97);
        Due.same("last to target 1", sheet.tongue.printed(1, 1), 10);
        Due.raises("behind the last to target 0", PLACE, () -> sheet.tongue.printed(0, 5));
        Due.raises("behind the last to target 1", PLACE, () -> sheet.tongue.printed(1, 2));
        Tongue empty = new Tongue();
        Due.same("nothing", empty.print(0) * 10 + empty.print(1), 20);
        Due.raises("of the empty text to target 0", PLACE, () -> empty.printed(0, 2));
        Due.raises("of the empty text to target 1", PLACE, () -> empty.printed(1, 0));
    }

    private static void longest() {
        Due.same("ITEMs", new Sheet("- ".repeat(119) + "-").tongue.print(0), 2 + 120 * 5);
        Due.same("ITEMs one behind another", new Sheet("-\n+\n".repeat(60)).tongue.print(0), 2 + 120 * 5);
        Due.same("QUOTEs", new Sheet(">".repeat(240)).tongue.print(0), 482);
        Due.same("letters", new Sheet("a".repeat(240)).tongue.print(0), 244);
        Due.same("letters to target 1", new Sheet("a".repeat(240)).tongue.print(1), 241);
        Due.same("lines of a FENCE", new Sheet("~~~" + "\n".repeat(237)).tongue.print(1), 237);
        Due.same("EMPHASIS", new Sheet("*a*b".repeat(60)).tongue.print(0), 4 + 60 * 4);
    }

    private static void formatted(String text, String want) {
        Sheet sheet = new Sheet(text);
        String name = text.replace("\n", "/");
        Due.same(name + " went", sheet.tongue.format(), text.length() - want.length());
        Due.same(name + " formatted", sheet.text(), want);
        Due.same(name + " length", sheet.tongue.length(), want.length());
        Due.same(name + " at rest", sheet.tongue.format(), 0);
        Due.same(name + " tree", sheet.shown(), Sheet.shownOf(text));
    }

    /** "to take blanks at the ends of lines away" */
    private static void blanksAtEnds() {
        formatted("a", "a");
        formatted("a ", "a");
        formatted("a     ", "a");
        formatted("  a", "  a");
        formatted("a  b", "a  b");
        formatted("a \nb \nc ", "a\nb\nc");
        formatted("> \n-  \n1.   \n#  ", ">\n-\n1.\n#");
        formatted("[a]: t  ", "[a]: t");
        formatted("\\ ", "\\");
        formatted("`a \nb `", "`a\nb `");
    }

    /** "of lines that are just blanks, or empty, those at the beginning and the end of the text, with their line ends" */
    private static void blankLinesAtBothEnds() {
        formatted("", "");
        formatted(" ", "");
        formatted("\n", "");
        formatted("  \n  \n  ", "");
        formatted("\na", "a");
        formatted("  \na", "a");
        formatted("\n\n\na", "a");
        formatted("a\n", "a");
        formatted("a\n  ", "a");
        formatted("a\n\n \n", "a");
        formatted("\n a \n", " a");
        formatted(">\n", ">");
        formatted("\n>\n\n", ">");
    }

    /** "and of several in a row all but one" */
    private static void blankLinesInARow() {
        formatted("a\n\nb", "a\n\nb");
        formatted("a\n \nb", "a\n\nb");
        formatted("a\n\n\nb", "a\n\nb");
        formatted("a\n \n\n  \n\nb", "a\n\nb");
        formatted("a\n\n\nb\n\n\n\nc\nd", "a\n\nb\n\nc\nd");
        formatted("- a\n\n\n- b", "- a\n\n- b");
        formatted("- a\n  \n   \n  b", "- a\n\n  b");
        formatted("> a\n>\n> \n> b", "> a\n>\n>\n> b");
    }

    /** "but lines that belong to a FENCE (that which begins it, that which closes it, and all between, or to the end) stay as they are" */
    private static void fenceLinesStay() {
        formatted("~~~  ", "~~~  ");
        formatted("~~~  \n~~~  ", "~~~  \n~~~  ");
        formatted("~~~\na  \n\n\n  \n~~~", "~~~\na  \n\n\n  \n~~~");
        formatted("~~~\n\n\n", "~~~\n\n\n");
        formatted("~~~\n  ", "~~~\n  ");
        formatted("a \n~~~ \nb ", "a\n~~~ \nb ");
        formatted("~~~ \n~~~ \n \n\nb ", "~~~ \n~~~ \n\nb");
        formatted("~~~ \n~~~ \n ", "~~~ \n~~~ ");
        formatted("\n \n~~~ \n ", "~~~ \n ");
        formatted("a\n\n\n~~~ \n\n\n~~~ \n\n\nb", "a\n\n~~~ \n\n\n~~~ \n\nb");
        formatted(" ~~~ \n  a ", " ~~~\n  a");
        formatted("~~~~ \n ", "~~~~");
    }

    /** In a QUOTE the line that closes the QUOTE is none of the FENCE; in an ITEM blank lines are. */
    private static void fenceInContainers() {
        formatted("> ~~~ \n> a \n\n\nb ", "> ~~~ \n> a \n\nb");
        formatted("> ~~~ \n>  \n>\n", "> ~~~ \n>  \n>");
        formatted("- ~~~ \n  a \n \n\nb ", "- ~~~ \n  a \n \n\nb");
        formatted("- ~~~ \n \n\n", "- ~~~ \n \n\n");
        formatted("- ~~~\n  ~~~  \n \n\n", "- ~~~\n  ~~~  ");
    }

    private static void fullTexts() {
        formatted(" ".repeat(240), "");
        formatted("\n".repeat(240), "");
        formatted("a" + " ".repeat(239), "a");
        formatted("a" + "\n".repeat(238) + "b", "a\n\nb");
        formatted("a\n".repeat(119) + "ab", "a\n".repeat(119) + "ab");
        formatted("~~~" + " \n".repeat(118) + " ", "~~~" + " \n".repeat(118) + " ");
        formatted("a \n".repeat(80), "a\n".repeat(79) + "a");
    }

    private static void atRest() {
        Sheet sheet = new Sheet("a \n\n\n# b ");
        sheet.tongue.keep(1);
        Due.same("went", sheet.tongue.format(), 3);
        Due.same("went again", sheet.tongue.format(), 0);
        Due.same("slots stay", sheet.kept(0) + "|" + sheet.kept(1), "0 |9 a \n\n\n# b ");
        sheet.tongue.put(0, '\n');
        Due.same("went once more", sheet.tongue.format(), 1);
    }
}
