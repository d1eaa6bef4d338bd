/** The section "Blocks", sentence by sentence: the last text that it lets be so, and the first that it does not. */
public final class BlockEdgesTest {
    public static void main(String[] args) {
        listsAndItems();
        closedByPutting();
        closedAtOnce();
        quoteGoesOn();
        itemGoesOn();
        blankItemGoesOn();
        documentAndListsGoOn();
        thoseWithinDoNot();
        fenceEnds();
        fenceLines();
        fenceLeft();
        quotesPutIn();
        markers();
        markersBehind();
        innermost();
        widths();
        sameList();
        otherList();
        blankClosesContainers();
        blankClosesParagraph();
        Due.finish("BlockEdgesTest");
    }

    private static void shown(String text, String want) {
        Due.same(text.replace("\n", "/"), Sheet.shownOf(text), want);
    }

    /** "a LIST has ITEMs alone, and these are in LISTs alone" */
    private static void listsAndItems() {
        shown("-", "{D:{L0:{I:}}}");
        shown("-\n-", "{D:{L0:{I:}{I:}}}");
        shown("- -", "{D:{L0:{I:{L0:{I:}}}}}");
        shown("> -", "{D:{Q:{L0:{I:}}}}");
    }

    /** "What is put into a container closes all that is open in it (an ITEM all that is open in its LIST)." */
    private static void closedByPutting() {
        shown("a\n# b\nc", "{D:{P:a}{H101:b}{P:c}}");
        shown("> a\n# b\n> c", "{D:{Q:{P:a}}{H101:b}{Q:{P:c}}}");
        shown("> > a\n> # b\n> > c", "{D:{Q:{Q:{P:a}}{H101:b}{Q:{P:c}}}}");
        shown("- a\n# b\n- c", "{D:{L0:{I:{P:a}}}{H101:b}{L0:{I:{P:c}}}}");
        shown("- > a\n- b\n  > c", "{D:{L0:{I:{Q:{P:a}}}{I:{P:b}{Q:{P:c}}}}}");
        shown("- ~~~\n- a\n  ~~~", "{D:{L0:{I:{F:}}{I:{P:a}{F:}}}}");
        shown("- - a\n- b\n  - c", "{D:{L0:{I:{L0:{I:{P:a}}}}{I:{P:b}{L0:{I:{P:c}}}}}}");
        shown("- a\n-\nb", "{D:{L0:{I:{P:a}}{I:}}{P:b}}");
        shown("a\n>\nb", "{D:{P:a}{Q:}{P:b}}");
        shown("> a\n> ~~~\n> ~~~\n> b", "{D:{Q:{P:a}{F:}{P:b}}}");
    }

    /** "HEADINGs and DEFINITIONs are closed at once." */
    private static void closedAtOnce() {
        shown("# a\nb", "{D:{H101:a}{P:b}}");
        shown("# a\n# b", "{D:{H101:a}{H101:b}}");
        shown("# a\n[b]: c", "{D:{H101:a}}");
        shown("[a]: t\nb", "{D:{P:b}}");
        Due.same("two DEFINITIONs", new Sheet("[a]: t\n[b]: u").kinds(), "D..");
        shown("> # a\nb", "{D:{Q:{H101:a}}{P:b}}");
    }

    /** "a QUOTE, if the rest begins with >, which is taken off, and a blank behind it, if there is one" */
    private static void quoteGoesOn() {
        shown("> # a\n># b", "{D:{Q:{H101:a}{H101:b}}}");
        shown("> # a\n> # b", "{D:{Q:{H101:a}{H101:b}}}");
        shown("> # a\n>  # b", "{D:{Q:{H101:a}{P:# b}}}");
        shown("> # a\n > # b", "{D:{Q:{H101:a}}{P:> # b}}");
        shown("> # a\n>", "{D:{Q:{H101:a}}}");
        shown("> # a\n# b", "{D:{Q:{H101:a}}{H101:b}}");
        Due.same("owners", new Sheet(">a\n>\n> \n>  b").owners(), "1 2 2 1 1 1 1 1 1 1 4 4");
    }

    /** "an ITEM, if the rest begins with as many blanks as it is wide, which are taken off" */
    private static void itemGoesOn() {
        for (String marker : new String[] {"- ", "+ ", "0. ", "9. "}) {
            String wide = " ".repeat(marker.length());
            shown(marker + "# a\n" + wide + "# b", "{D:{L0:{I:{H101:a}{H101:b}}}}");
            shown(marker + "# a\n" + wide + " # b", "{D:{L0:{I:{H101:a}{P:# b}}}}");
            shown(marker + "# a\n" + wide.substring(1) + "# b", "{D:{L0:{I:{H101:a}}}{P:# b}}");
            shown(marker + "# a\n# b", "{D:{L0:{I:{H101:a}}}{H101:b}}");
            shown(marker + "# a\n\n" + wide + "# b", "{D:{L1:{I:{H101:a}{H101:b}}}}");
            shown(marker + "# a\n\n" + wide.substring(1) + "# b", "{D:{L0:{I:{H101:a}}}{P:# b}}");
        }
    }

    /** "or if it is just blanks, however many, or empty: then all of it is taken off" */
    private static void blankItemGoesOn() {
        for (int blanks = 0; blanks < 6; blanks++) {
            String blank = " ".repeat(blanks);
            shown("- # a\n" + blank + "\n  # b", "{D:{L1:{I:{H101:a}{H101:b}}}}");
            shown("- ~~~\n" + blank + "\n  b\n" + blank, "{D:{L0:{I:{F:\nb\n\n}}}}");
            shown("1. ~~~\n" + blank + "\n   b", "{D:{L0:{I:{F:\nb\n}}}}");
            shown("- - ~~~\n" + blank + "\n    b", "{D:{L0:{I:{L0:{I:{F:\nb\n}}}}}}");
            shown("> - ~~~\n> " + blank + "\n>   b", "{D:{Q:{L0:{I:{F:\nb\n}}}}}");
            Due.same("owners " + blanks, new Sheet("- ~~~\n" + blank + "\n").owners(), "2 2 3 3 3 3" + " 2".repeat(blanks) + " 3");
            Due.same("owners within " + blanks, new Sheet("- -\n" + blank + "\n").owners(), "2 2 4 4" + " 2".repeat(blanks) + " 4");
        }
        Due.same("the whole line", new Sheet("-\n" + " ".repeat(238)).owners(), "2 2" + " 2".repeat(238));
    }

    /** "DOCUMENT and LISTS in any case" */
    private static void documentAndListsGoOn() {
        shown("- # a\n- # b", "{D:{L0:{I:{H101:a}}{I:{H101:b}}}}");
        shown("- # a\n\n\n- # b", "{D:{L1:{I:{H101:a}}{I:{H101:b}}}}");
        shown("> - # a\n>\n> - # b", "{D:{Q:{L1:{I:{H101:a}}{I:{H101:b}}}}}");
        shown("a\n\n\nb", "{D:{P:a}{P:b}}");
    }

    /** "If one does not, neither do those within." */
    private static void thoseWithinDoNot() {
        shown("> - # a\n  # b", "{D:{Q:{L0:{I:{H101:a}}}}{P:# b}}");
        shown("- > # a\n> # b", "{D:{L0:{I:{Q:{H101:a}}}}{Q:{H101:b}}}");
        shown("> > # a\n - > # b", "{D:{Q:{Q:{H101:a}}}{P:- > # b}}");
        shown("- 1. # a\n   # b", "{D:{L0:{I:{L0:{I:{H101:a}}}{P:# b}}}}");
        Due.same("owners", new Sheet("> - # a\n  # b").owners(), "1 1 3 3 4 4 4 4 6 6 6 6 6");
    }

    /** "if the rest, without blanks at its end, is ~~~, it is closed" */
    private static void fenceEnds() {
        for (String end : new String[] {"~~~", "~~~ ", "~~~    "}) {
            shown("~~~\na\n" + end + "\nb", "{D:{F:a\n}{P:b}}");
            shown("> ~~~\n> " + end + "\n> b", "{D:{Q:{F:}{P:b}}}");
            shown("- ~~~\n  " + end + "\n  b", "{D:{L0:{I:{F:}{P:b}}}}");
        }
        for (String line : new String[] {"~~", "~~~~", " ~~~", "~~~ ~", "~~~x", "x~~~", "~~~~~~", "```", "~ ~ ~"}) {
            shown("~~~\n" + line + "\nb", "{D:{F:" + line + "\nb\n}}");
            shown("> ~~~\n> " + line, "{D:{Q:{F:" + line + "\n}}}");
        }
        shown("~~~\n~~~\n~~~", "{D:{F:}{F:}}");
    }

    /** "otherwise the rest is one of its lines. That is all for this line." */
    private static void fenceLines() {
        Sheet sheet = new Sheet("~~~\n> a\n- b\n1. c\n# d\n[e]: f\n\n  \n  g  \n~~~\n[e]");
        Due.same("lines", sheet.shown(), "{D:{F:> a\n- b\n1. c\n# d\n[e]: f\n\n  \n  g  \n}{P:[e]}}");
        Due.same("nodes", sheet.tongue.nodes(), 4);
        Due.same("how many", sheet.tongue.node(1, 3), 8);
        shown("- ~~~\n\n- a", "{D:{L0:{I:{F:\n}}{I:{P:a}}}}");
        shown("- ~~~\n  ~~~\n\n- a", "{D:{L1:{I:{F:}}{I:{P:a}}}}");
    }

    /** "If a FENCE is open, and all containers ahead of it go on": otherwise the line is none of it. */
    private static void fenceLeft() {
        shown("> ~~~\n~~~\na", "{D:{Q:{F:}}{F:a\n}}");
        shown("> ~~~\na\n> b", "{D:{Q:{F:}}{P:a}{Q:{P:b}}}");
        shown("> ~~~\n\n~~~", "{D:{Q:{F:}}{F:}}");
        shown("- ~~~\n ~~~", "{D:{L0:{I:{F:}}}{P:~~~}}");
        shown("- ~~~\n~~~\n~~~", "{D:{L0:{I:{F:}}}{F:}}");
        shown("> - ~~~\n>  a", "{D:{Q:{L0:{I:{F:}}}{P:a}}}");
        shown("> - ~~~\n>\n>   a\n>\n", "{D:{Q:{L0:{I:{F:\na\n\n}}}}}");
        shown("- > ~~~\n\n  > a", "{D:{L1:{I:{Q:{F:}}{Q:{P:a}}}}}");
    }

    /** "While the rest begins with >": with or without a blank behind it, and however often. */
    private static void quotesPutIn() {
        shown(">a", "{D:{Q:{P:a}}}");
        shown(">", "{D:{Q:}}");
        shown(">>>a", "{D:{Q:{Q:{Q:{P:a}}}}}");
        shown("> >> a", "{D:{Q:{Q:{Q:{P:a}}}}}");
        shown(">  > a", "{D:{Q:{P:> a}}}");
        shown("> a\n>> b", "{D:{Q:{P:a}{Q:{P:b}}}}");
        Due.same("all of a full text", new Sheet(">".repeat(240)).tongue.count(Marktongue.QUOTE), 240);
        Due.same("most nodes", new Sheet(">".repeat(239) + "a").tongue.nodes(), 242);
    }

    /** "a marker, that is - or + or a digit and a full stop" */
    private static void markers() {
        for (String marker : new String[] {"-", "+", "0.", "1.", "2.", "3.", "4.", "5.", "6.", "7.", "8.", "9."}) {
            shown(marker + " a", "{D:{L0:{I:{P:a}}}}");
            shown(marker, "{D:{L0:{I:}}}");
            shown("b\n" + marker, "{D:{P:b}{L0:{I:}}}");
            shown("> " + marker + "\n> " + marker + " a", "{D:{Q:{L0:{I:}{I:{P:a}}}}}");
        }
        for (String none : new String[] {",", "*", ".", "/.", ":.", "a.", "/", "1", "1,", "1-", "10.", "-1.", "1..", "--", "+-", "-.", "_", "~"}) {
            shown(none + " a", "{D:{P:" + none + " a}}");
            shown(none, "{D:{P:" + none + "}}");
        }
    }

    /** "behind which there is a blank or nothing" */
    private static void markersBehind() {
        shown("-a", "{D:{P:-a}}");
        shown("-!", "{D:{P:-!}}");
        shown("->", "{D:{P:->}}");
        shown("+a", "{D:{P:+a}}");
        shown("1.a", "{D:{P:1.a}}");
        shown("1.-", "{D:{P:1.-}}");
        shown("1 . a", "{D:{P:1 . a}}");
        shown("- ", "{D:{L0:{I:}}}");
        shown("1. ", "{D:{L0:{I:}}}");
        shown("-\na", "{D:{L0:{I:}}{P:a}}");
        shown(" - a", "{D:{P:- a}}");
        shown("-  - a", "{D:{L0:{I:{P:- a}}}}");
    }

    /** "put into the innermost container that goes on (a LIST does not count as one here, and from then on the new one is it)" */
    private static void innermost() {
        shown("> - 1. > + a", "{D:{Q:{L0:{I:{L0:{I:{Q:{L0:{I:{P:a}}}}}}}}}}");
        shown("> - a\n> > b", "{D:{Q:{L0:{I:{P:a}}}{Q:{P:b}}}}");
        shown("> - a\n>   > b", "{D:{Q:{L0:{I:{P:a}{Q:{P:b}}}}}}");
        shown("- a\n> b", "{D:{L0:{I:{P:a}}}{Q:{P:b}}}");
        shown("- > a\n  - b", "{D:{L0:{I:{Q:{P:a}}{L0:{I:{P:b}}}}}}");
        shown("> a\n- b", "{D:{Q:{P:a}}{L0:{I:{P:b}}}}");
    }

    /** "An ITEM is 2 wide, with a digit 3.": even with nothing behind its marker, or many blanks. */
    private static void widths() {
        Due.same("widths", new Sheet("- + 5. a").told(3), "0 0 2 0 2 0 3 0 1");
        Due.same("widths without a blank", new Sheet("-\n+\n0.").told(3), "0 0 2 0 2 0 3");
        shown("-\n  # a", "{D:{L0:{I:{H101:a}}}}");
        shown("-\n # a", "{D:{L0:{I:}}{P:# a}}");
        shown("1.\n   # a", "{D:{L0:{I:{H101:a}}}}");
        shown("1.\n  # a", "{D:{L0:{I:}}{P:# a}}");
        shown("-   # a\n  # b", "{D:{L0:{I:{P:# a}{H101:b}}}}");
        shown("1.    # a\n   # b", "{D:{L0:{I:{P:# a}{H101:b}}}}");
    }

    /** "It goes into a LIST that is open and the last one in that container, if that has the same marker (-, + or any digit)" */
    private static void sameList() {
        shown("- a\n- b\n- c", "{D:{L0:{I:{P:a}}{I:{P:b}}{I:{P:c}}}}");
        shown("+ a\n+ b", "{D:{L0:{I:{P:a}}{I:{P:b}}}}");
        shown("0. a\n9. b\n0. c", "{D:{L0:{I:{P:a}}{I:{P:b}}{I:{P:c}}}}");
        shown("- a\nb\n- c", "{D:{L0:{I:{P:a\nb}}{I:{P:c}}}}");
        shown("- a\n  - b\n  - c\n- d", "{D:{L0:{I:{P:a}{L0:{I:{P:b}}{I:{P:c}}}}{I:{P:d}}}}");
        shown("- + a\n- + b", "{D:{L0:{I:{L0:{I:{P:a}}}}{I:{L0:{I:{P:b}}}}}}");
    }

    /** "otherwise into a new LIST" */
    private static void otherList() {
        shown("- a\n+ b\n- c", "{D:{L0:{I:{P:a}}}{L0:{I:{P:b}}}{L0:{I:{P:c}}}}");
        shown("- a\n1. b\n+ c", "{D:{L0:{I:{P:a}}}{L0:{I:{P:b}}}{L0:{I:{P:c}}}}");
        shown("- a\n> b\n- c", "{D:{L0:{I:{P:a}}}{Q:{P:b}}{L0:{I:{P:c}}}}");
        shown("- a\n~~~\n~~~\n- c", "{D:{L0:{I:{P:a}}}{F:}{L0:{I:{P:c}}}}");
        shown("- # a\nb\n- c", "{D:{L0:{I:{H101:a}}}{P:b}{L0:{I:{P:c}}}}");
        shown("- # a\n[b]: t\n- c", "{D:{L0:{I:{H101:a}}}{L0:{I:{P:c}}}}");
        shown("> - a\n- b", "{D:{Q:{L0:{I:{P:a}}}}{L0:{I:{P:b}}}}");
        shown("> - a\n\n> - b", "{D:{Q:{L0:{I:{P:a}}}}{Q:{L0:{I:{P:b}}}}}");
        shown("- - a\n- - b", "{D:{L0:{I:{L0:{I:{P:a}}}}{I:{L0:{I:{P:b}}}}}}");
    }

    /** "all containers that do not go on are closed" by a blank line, and no others. */
    private static void blankClosesContainers() {
        shown("> # a\n\n> # b", "{D:{Q:{H101:a}}{Q:{H101:b}}}");
        shown("> # a\n  \n> # b", "{D:{Q:{H101:a}}{Q:{H101:b}}}");
        shown("> # a\n>\n> # b", "{D:{Q:{H101:a}{H101:b}}}");
        shown("> # a\n>   \n> # b", "{D:{Q:{H101:a}{H101:b}}}");
        shown("> > # a\n>\n> > # b", "{D:{Q:{Q:{H101:a}}{Q:{H101:b}}}}");
        shown("> > # a\n\n> > # b", "{D:{Q:{Q:{H101:a}}}{Q:{Q:{H101:b}}}}");
        shown("- > # a\n\n  > # b", "{D:{L1:{I:{Q:{H101:a}}{Q:{H101:b}}}}}");
        shown("- > # a\n  >\n  > # b", "{D:{L0:{I:{Q:{H101:a}{H101:b}}}}}");
        shown("> a\n\nb", "{D:{Q:{P:a}}{P:b}}");
        shown("> > a\n>\nb", "{D:{Q:{Q:{P:a}}}{P:b}}");
    }

    /** "and so is a PARAGRAPH that is open in the innermost one that does" */
    private static void blankClosesParagraph() {
        shown("a\n\nb", "{D:{P:a}{P:b}}");
        shown("a\n \nb", "{D:{P:a}{P:b}}");
        shown("a\nb", "{D:{P:a\nb}}");
        shown("> a\n>\n> b", "{D:{Q:{P:a}{P:b}}}");
        shown("- a\n\n  b", "{D:{L1:{I:{P:a}{P:b}}}}");
        shown("- a\n\nb", "{D:{L0:{I:{P:a}}}{P:b}}");
        shown("~~~\n\n~~~", "{D:{F:\n}}");
    }
}
