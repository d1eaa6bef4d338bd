/** The section "Blocks" from its step 4 on, sentence by sentence: blank lines, HEADINGs, FENCEs, lazy lines, DEFINITIONs, loose LISTs, anchors, names. */
public final class LeafEdgesTest {
    public static void main(String[] args) {
        headings();
        headingTexts();
        fences();
        lazyLines();
        notLazy();
        definedNames();
        definedTargets();
        definitionPlaces();
        paragraphs();
        ends();
        looseByItem();
        looseByBlock();
        notLoose();
        blankLines();
        anchors();
        noAnchor();
        names();
        Due.finish("LeafEdgesTest");
    }

    private static void shown(String text, String want) {
        Due.same(text.replace("\n", "/"), Sheet.shownOf(text), want);
    }

    /** "If it is one to three #, and then a blank or nothing: a HEADING of so many" */
    private static void headings() {
        shown("# a", "{D:{H101:a}}");
        shown("## a", "{D:{H102:a}}");
        shown("### a", "{D:{H103:a}}");
        shown("#### a", "{D:{P:#### a}}");
        shown("#", "{D:{H101:}}");
        shown("##", "{D:{H102:}}");
        shown("###", "{D:{H103:}}");
        shown("####", "{D:{P:####}}");
        shown("#a", "{D:{P:#a}}");
        shown("##a", "{D:{P:##a}}");
        shown("###a", "{D:{P:###a}}");
        shown("#!", "{D:{P:#!}}");
        shown(" #", "{D:{P:#}}");
        shown("\\# a", "{D:{P:# a}}");
        shown("- ### a", "{D:{L0:{I:{H103:a}}}}");
        shown("-  # a", "{D:{L0:{I:{P:# a}}}}");
        Due.same("levels", new Sheet("#\n##\n###").told(3), "0 1 2 3");
    }

    /** "its text being what is behind", "without blanks at both ends" */
    private static void headingTexts() {
        shown("#   a  b   ", "{D:{H101:a  b}}");
        shown("# ", "{D:{H101:}}");
        shown("#     ", "{D:{H101:}}");
        shown("# # a", "{D:{H101:# a}}");
        shown("# > a", "{D:{H101:> a}}");
        shown("# ~~~", "{D:{H101:~~~}}");
        shown("# a\\\nb", "{D:{H101:a\\}{P:b}}");
        shown("# *a\nb*", "{D:{H101:*a}{P:b*}}");
        Due.same("owners", new Sheet("#  a \n").owners(), "1 1 1 1 1 1");
    }

    /** "If it, without blanks at its end, is ~~~: a FENCE, with no lines." */
    private static void fences() {
        shown("~~~", "{D:{F:}}");
        shown("~~~    ", "{D:{F:}}");
        shown("~~", "{D:{P:~~}}");
        shown("~~~~", "{D:{P:~~~~}}");
        shown(" ~~~", "{D:{P:~~~}}");
        shown("~~~ a", "{D:{P:~~~ a}}");
        shown("~~~a", "{D:{P:~~~a}}");
        shown("\\~~~", "{D:{P:~~~}}");
        shown("- ~~~", "{D:{L0:{I:{F:}}}}");
        shown("a\n~~~\nb", "{D:{P:a}{F:b\n}}");
        Due.same("no lines", new Sheet("~~~").tongue.node(1, 3), 0);
        Due.same("no lines when closed", new Sheet("~~~\n~~~\n").tongue.node(1, 3), 0);
        Due.same("one line", new Sheet("~~~\n").tongue.node(1, 3), 1);
        Due.same("most lines", new Sheet("~~~" + "\n".repeat(237)).tongue.node(1, 3), 237);
    }

    /** "If a PARAGRAPH is open, and no container was put in: the rest is a line more of it, even if not all containers go on" */
    private static void lazyLines() {
        shown("a\nb", "{D:{P:a\nb}}");
        shown("> a\nb", "{D:{Q:{P:a\nb}}}");
        shown("> > > a\nb", "{D:{Q:{Q:{Q:{P:a\nb}}}}}");
        shown("> > > a\n> b", "{D:{Q:{Q:{Q:{P:a\nb}}}}}");
        shown("- a\nb", "{D:{L0:{I:{P:a\nb}}}}");
        shown("- a\n b", "{D:{L0:{I:{P:a\nb}}}}");
        shown("- - a\n  b", "{D:{L0:{I:{L0:{I:{P:a\nb}}}}}}");
        shown("> - a\n> b", "{D:{Q:{L0:{I:{P:a\nb}}}}}");
        shown("> a\n    # b", "{D:{Q:{P:a\n# b}}}");
        shown("> a\n[b]: t", "{D:{Q:{P:a\n[b]: t}}}");
        shown("> a\nb\n> c", "{D:{Q:{P:a\nb\nc}}}");
        shown("- a\nb\n  # c\n- d", "{D:{L0:{I:{P:a\nb}{H101:c}}{I:{P:d}}}}");
        Due.same("owners", new Sheet("> > a\n> b\nc").owners(), "1 1 2 2 3 3 1 1 3 3 3");
    }

    /** What comes ahead of lazy lines, and a PARAGRAPH that is not open. */
    private static void notLazy() {
        shown("> a\n# b", "{D:{Q:{P:a}}{H101:b}}");
        shown("> a\n~~~", "{D:{Q:{P:a}}{F:}}");
        shown("> a\n- b", "{D:{Q:{P:a}}{L0:{I:{P:b}}}}");
        shown("> a\n> > b", "{D:{Q:{P:a}{Q:{P:b}}}}");
        shown("- a\n- b", "{D:{L0:{I:{P:a}}{I:{P:b}}}}");
        shown("- a\n  > b", "{D:{L0:{I:{P:a}{Q:{P:b}}}}}");
        shown("> a\n\nb", "{D:{Q:{P:a}}{P:b}}");
        shown("> # a\nb", "{D:{Q:{H101:a}}{P:b}}");
        shown("> a\n> # b\nc", "{D:{Q:{P:a}{H101:b}}{P:c}}");
        shown("- \nb", "{D:{L0:{I:}}{P:b}}");
        shown("> ~~~\nb", "{D:{Q:{F:}}{P:b}}");
    }

    private static void defined(String text, boolean isDefined) {
        Due.same(text + " is a DEFINITION", new Sheet(text).kinds().equals("D."), isDefined);
        Due.same(text + " is a PARAGRAPH", new Sheet(text).kinds().startsWith("DP"), !isDefined);
    }

    /** "[, a name of 1 to 6 letters and digits, ]:" */
    private static void definedNames() {
        defined("[a]: t", true);
        defined("[0]: t", true);
        defined("[aB3dE6]: t", true);
        defined("[]: t", false);
        defined("[aB3dE67]: t", false);
        defined("[a b]: t", false);
        defined("[ a]: t", false);
        defined("[a ]: t", false);
        defined("[a-b]: t", false);
        defined("[[a]: t", false);
        defined("[a]]: t", false);
        defined("[a: t", false);
        defined("a]: t", false);
        defined("[a] : t", false);
        defined("[a]", false);
        defined("[a", false);
        defined("[", false);
        defined(" [a]: t", false);
        defined("\\[a]: t", false);
    }

    /** "and blanks, at least one, and a target of 1 to 8 letters and digits, perhaps with blanks at the end" */
    private static void definedTargets() {
        defined("[a]:t", false);
        defined("[a]:    t", true);
        defined("[a]: 1", true);
        defined("[a]: aB3dE678", true);
        defined("[a]: aB3dE6789", false);
        defined("[a]: ", false);
        defined("[a]:", false);
        defined("[a]:     ", false);
        defined("[a]: t    ", true);
        defined("[a]: aB3dE678 ", true);
        defined("[a]: t u", false);
        defined("[a]: t.", false);
        defined("[a]: /t", false);
        defined("[a]: t !", false);
        defined("[a]:" + " ".repeat(235) + "t", true);
        defined("[a]:" + " ".repeat(236), false);
    }

    /** It is put into a container like others, but never in place of a lazy line. */
    private static void definitionPlaces() {
        Due.same("within", new Sheet("> [a]: t\n- [b]: u\n  [c]: v").kinds(), "DQ.LI..");
        Due.same("behind a PARAGRAPH", new Sheet("a\n[b]: t").kinds(), "DPT");
        Due.same("behind a container", new Sheet("a\n> [b]: t").kinds(), "DPTQ.");
        Due.same("behind a HEADING", new Sheet("# a\n[b]: t").kinds(), "DHT.");
        Due.same("behind a blank line", new Sheet("a\n\n[b]: t").kinds(), "DPT.");
        Due.same("behind a QUOTE that does not go on", new Sheet("> [a]: t\n[b]: t").kinds(), "DQ..");
        Due.same("owners", new Sheet("> [a]: t \nb").owners(), "1 1 2 2 2 2 2 2 2 2 3");
    }

    /** "Otherwise: a PARAGRAPH, with the rest as its line.", "put into the innermost container that goes on, or was put in" */
    private static void paragraphs() {
        shown("a", "{D:{P:a}}");
        shown("   a   ", "{D:{P:a}}");
        shown("!", "{D:{P:!}}");
        shown("> - a", "{D:{Q:{L0:{I:{P:a}}}}}");
        shown("> - # a\n> b", "{D:{Q:{L0:{I:{H101:a}}}{P:b}}}");
        shown("> - # a\n>   b", "{D:{Q:{L0:{I:{H101:a}{P:b}}}}}");
        shown("- # a\n  # b\n# c", "{D:{L0:{I:{H101:a}{H101:b}}}{H101:c}}");
        shown("> ~~~\n> ~~~\n~~~", "{D:{Q:{F:}}{F:}}");
    }

    /** "At the end all is closed." */
    private static void ends() {
        shown("> - ~~~\n>   a", "{D:{Q:{L0:{I:{F:a\n}}}}}");
        shown("> a\n", "{D:{Q:{P:a}}}");
        shown("> a\n\n\n", "{D:{Q:{P:a}}}");
        shown("- ", "{D:{L0:{I:}}}");
    }

    /** "A LIST is loose, if an ITEM that is not its first one was put into it ... in a line right behind a blank one" */
    private static void looseByItem() {
        shown("- a\n\n- b", "{D:{L1:{I:{P:a}}{I:{P:b}}}}");
        shown("- a\n- b\n\n- c", "{D:{L1:{I:{P:a}}{I:{P:b}}{I:{P:c}}}}");
        shown("- a\n\n- b\n- c", "{D:{L1:{I:{P:a}}{I:{P:b}}{I:{P:c}}}}");
        shown("- a\n\n-", "{D:{L1:{I:{P:a}}{I:}}}");
        shown("-\n\n-", "{D:{L1:{I:}{I:}}}");
        shown("- a\n   \n- b", "{D:{L1:{I:{P:a}}{I:{P:b}}}}");
        shown("\n- a\n- b", "{D:{L0:{I:{P:a}}{I:{P:b}}}}");
        shown("a\n\n- a\n- b", "{D:{P:a}{L0:{I:{P:a}}{I:{P:b}}}}");
        shown("- a\n\n+ b\n+ c", "{D:{L0:{I:{P:a}}}{L0:{I:{P:b}}{I:{P:c}}}}");
        shown("- a\n\n- - b", "{D:{L1:{I:{P:a}}{I:{L0:{I:{P:b}}}}}}");
        Due.same("told", new Sheet("- a\n\n- b\n+ c\n+ d").told(3), "0 1 2 0 1 2 0 1 0 2 0 1 2 0 1");
    }

    /** "or a block (a container, too) that is not the first one into an ITEM of it" */
    private static void looseByBlock() {
        shown("- a\n\n  b", "{D:{L1:{I:{P:a}{P:b}}}}");
        shown("- a\n\n  # b", "{D:{L1:{I:{P:a}{H101:b}}}}");
        shown("- a\n\n  ~~~", "{D:{L1:{I:{P:a}{F:}}}}");
        shown("- a\n\n  [b]: t", "{D:{L1:{I:{P:a}}}}");
        shown("- a\n\n  > b", "{D:{L1:{I:{P:a}{Q:{P:b}}}}}");
        shown("- a\n\n  - b", "{D:{L1:{I:{P:a}{L0:{I:{P:b}}}}}}");
        shown("- [a]: t\n\n  b", "{D:{L1:{I:{P:b}}}}");
        shown("- a\n- # b\n\n  c", "{D:{L1:{I:{P:a}}{I:{H101:b}{P:c}}}}");
        shown("-\n\n  a", "{D:{L0:{I:{P:a}}}}");
        shown("-\n  a\n\n  b", "{D:{L1:{I:{P:a}{P:b}}}}");
    }

    private static void notLoose() {
        shown("- a\n- b", "{D:{L0:{I:{P:a}}{I:{P:b}}}}");
        shown("- a\n  # b", "{D:{L0:{I:{P:a}{H101:b}}}}");
        shown("- a\n\nb", "{D:{L0:{I:{P:a}}}{P:b}}");
        shown("- a\n\n", "{D:{L0:{I:{P:a}}}}");
        shown("- > a\n  >\n  > b", "{D:{L0:{I:{Q:{P:a}{P:b}}}}}");
        shown("- # a\n\n  - b", "{D:{L1:{I:{H101:a}{L0:{I:{P:b}}}}}}");
        shown("- - a\n\n  - b", "{D:{L0:{I:{L1:{I:{P:a}}{I:{P:b}}}}}}");
        shown("- - a\n\n    b", "{D:{L0:{I:{L1:{I:{P:a}{P:b}}}}}}");
        shown("- - a\n\n  b", "{D:{L1:{I:{L0:{I:{P:a}}}{P:b}}}}");
        shown("- # a\n\n  b\n  c\n- d", "{D:{L1:{I:{H101:a}{P:b\nc}}{I:{P:d}}}}");
        shown("- # a\n\n\n  # b\n  # c", "{D:{L1:{I:{H101:a}{H101:b}{H101:c}}}}");
    }

    /** "in a line right behind a blank one, in whatever container that is blank"; "the line is blank, if no container was put in" */
    private static void blankLines() {
        shown("- > a\n  >\n- b", "{D:{L1:{I:{Q:{P:a}}}{I:{P:b}}}}");
        shown("- a\n  >\n- b", "{D:{L0:{I:{P:a}{Q:}}{I:{P:b}}}}");
        shown("> - a\n>\n> - b", "{D:{Q:{L1:{I:{P:a}}{I:{P:b}}}}}");
        shown("- a\n-\n- b", "{D:{L0:{I:{P:a}}{I:}{I:{P:b}}}}");
        shown("- a\n-\n\n- b", "{D:{L1:{I:{P:a}}{I:}{I:{P:b}}}}");
        shown("- a\n\n- b\n- c", "{D:{L1:{I:{P:a}}{I:{P:b}}{I:{P:c}}}}");
        shown("- > # a\n  >\n  # b", "{D:{L1:{I:{Q:{H101:a}}{H101:b}}}}");
        shown("- ~~~\n\n  ~~~\n- a", "{D:{L0:{I:{F:\n}}{I:{P:a}}}}");
        shown("- # a\n\n  [b]: t\n  # c", "{D:{L1:{I:{H101:a}{H101:c}}}}");
    }

    private static void anchored(String heading, String name) {
        anchored(heading, name, "4");
    }

    private static void anchored(String heading, String name, String ways) {
        Due.same(heading + " is " + name, new Sheet("[" + name + "]\n\n" + heading).ways(), ways);
    }

    /** "The anchor of a HEADING are the first 6 letters and digits of its text as it is written" */
    private static void anchors() {
        anchored("# a", "a");
        anchored("# abcdef", "abcdef");
        anchored("# abcdefg", "abcdef");
        anchored("## 1 2-3.4_5*6 7", "123456");
        anchored("# aB", "aB");
        anchored("# \\a `b` *c* [d]", "abcd");
        anchored("# [a][b]\n[b]: t", "ab", "4 7");
        anchored("1. ### a", "a", "6");
        anchored("> 2. # a", "a", "7");
        anchored("###   ...a", "a");
        Due.same("five are not six", new Sheet("[abcdef]\n\n# abcde").ways(), "");
        Due.same("six are not five", new Sheet("[abcde]\n\n# abcdef").ways(), "");
        Due.same("seven are no name", new Sheet("[abcdefg]\n\n# abcdefg").ways(), "");
        Due.same("A is not a", new Sheet("[A]\n\n# a").ways(), "");
        Due.same("no anchor of a PARAGRAPH", new Sheet("[a]\n\na").ways(), "");
    }

    /** "or x, if it has none" */
    private static void noAnchor() {
        anchored("#", "x");
        anchored("#   ", "x");
        anchored("# !*? .", "x");
        anchored("# x", "x");
        Due.same("not with one letter", new Sheet("[x]\n\n# a").ways(), "");
        Due.same("not X", new Sheet("[X]\n\n#").ways(), "");
        Due.same("the first one of both", new Sheet("[x]\n\n# x\n#").ways() + new Sheet("[x]\n\n#\n# x").ways(), "44");
    }

    /** "the name of a DEFINITION counts where it is told first" */
    private static void names() {
        Due.same("the first one", new Sheet("[a]: t\n[a]: u\n[a]").ways(), "1");
        Due.same("first within a QUOTE", new Sheet("> [a]: t\n\n[a]: u\n[a]").ways(), "2");
        Due.same("told behind", new Sheet("[a]\n\n[b]: t\n[a]: u\n[a]: v").ways(), "5");
        Due.same("of two names", new Sheet("[b]: t\n[a]: u\n[b]: v\n[a]").ways(), "2");
        Due.same("none in a FENCE", new Sheet("[a]\n~~~\n[a]: t").ways(), "");
        Due.same("none in a lazy line", new Sheet("[a]\n[a]: t").ways(), "");
    }
}
