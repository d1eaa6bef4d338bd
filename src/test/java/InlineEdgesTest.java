import java.util.function.BinaryOperator;

/** The section "Inline", sentence by sentence: the last text that it lets be so, and the first that it does not. */
public final class InlineEdgesTest {
    private static final String TOLD = "\n\n[a]: t\n[abcdef]: u";

    public static void main(String[] args) {
        paragraphTexts();
        escapes();
        runsBehindEscapes();
        code();
        codeAsItIs();
        noCode();
        brackets();
        namesBetween();
        namesBehind();
        whatIsMeant();
        openNoMore();
        goneOnBehind();
        opens();
        closes();
        inLinks();
        multiplesOfThree();
        lengthsAsWritten();
        twoLeft();
        nearest();
        runsBetween();
        starsLeft();
        textNodes();
        largest();
        Due.finish("InlineEdgesTest");
    }

    private static void inline(String text, String want) {
        Due.same(text.replace("\n", "/"), Sheet.inlineOf(text), want);
    }

    /** The same ahead of DEFINITIONs of a and abcdef. */
    private static void told(String text, String want) {
        inline(text + TOLD, want);
    }

    /** "its lines, each without blanks at both ends, with line ends between them" */
    private static void paragraphTexts() {
        inline("  a  b  ", "a  b");
        inline(" a \n b \nc", "a\nb\nc");
        inline("a\n    b", "a\nb");
        Due.same("in an ITEM", Sheet.shownOf("-   a  \n   b \n c "), "{D:{L0:{I:{P:a\nb\nc}}}}");
        inline("*a \n b*", "{E:a\nb}");
        inline("`a \n  b `", "{C:a\nb }");
    }

    /** "\ and a sign: the sign is a character like others, and no mark" */
    private static void escapes() {
        inline("\\*a*", "*a*");
        inline("*a\\*", "*a*");
        inline("\\`a`", "`a`");
        told("\\[a]", "[a]");
        told("[a\\]", "[a]");
        told("[a]\\[abcdef]", "{K300:a}[abcdef]");
        inline("\\\\", "\\");
        inline("\\\\\\*", "\\*");
        inline("a\\", "a\\");
        inline("\\a\\9", "\\a\\9");
        inline("a\\ b\\\nc", "a\\ b\\\nc");
        inline("\\>\\-\\#\\~\\(", ">-#~(");
        Due.same("in a HEADING", Sheet.shownOf("# \\*a\\"), "{D:{H101:*a\\}}");
    }

    /** "a run of ` or * begins behind it only" */
    private static void runsBehindEscapes() {
        inline("\\**a*", "*{E:a}");
        inline("\\***a**", "*{S:a}");
        inline("**\\*a***", "{S:*a}*");
        inline("\\``a`", "`{C:a}");
        inline("\\```a``", "`{C:a}");
        inline("\\\\`a`", "\\{C:a}");
        inline("\\\\*a*", "\\{E:a}");
    }

    /** "A run of some ` (as many as there are): up to the next run of just as many, what is between is CODE" */
    private static void code() {
        inline("`a`", "{C:a}");
        inline("``a``", "{C:a}");
        inline("``````a``````", "{C:a}");
        inline("` `", "{C: }");
        inline("`a``b`", "{C:a``b}");
        inline("``a`b``", "{C:a`b}");
        inline("``a```b``", "{C:a```b}");
        inline("`a` `b`", "{C:a} {C:b}");
        inline("`a`b`", "{C:a}b`");
        inline("`a\nb`", "{C:a\nb}");
        inline("x`a`y", "x{C:a}y");
        Due.same("in a HEADING", Sheet.shownOf("# `a`"), "{D:{H101:{C:a}}}");
        Due.same("not across blocks", Sheet.shownOf("`a\n\nb`"), "{D:{P:`a}{P:b`}}");
    }

    /** "what is between is CODE (as it is, with \)" */
    private static void codeAsItIs() {
        inline("`\\a\\*`", "{C:\\a\\*}");
        inline("`a\\`", "{C:a\\}");
        inline("`a\\`b`", "{C:a\\}b`");
        inline("`*a*`", "{C:*a*}");
        inline("*a`*`", "*a{C:*}");
        told("`[a]`", "{C:[a]}");
        told("[a`]`", "[a{C:]}");
        told("`a[`a]", "{C:a[}a]");
        told("[`a`]", "[{C:a}]");
        inline("`  a  `", "{C:  a  }");
    }

    /** "without such a run they are characters like others" */
    private static void noCode() {
        inline("`", "`");
        inline("``", "``");
        inline("`a", "`a");
        inline("``a`", "``a`");
        inline("`a``", "`a``");
        inline("```a``", "```a``");
        inline("`` `a`", "`` {C:a}");
        inline("``*a*", "``{E:a}");
        told("`[a]", "`{K300:a}");
    }

    /** "] closes one, if a [ is open"; "Without an open [ it is a character like others." */
    private static void brackets() {
        told("[a]", "{K300:a}");
        told("a]", "a]");
        told("]", "]");
        told("][", "][");
        told("]a[", "]a[");
        told("[a", "[a");
        told("[a]]", "{K300:a}]");
        told("[[a]", "[{K300:a}");
        told("[]", "[]");
        told("[a][a][a]", "{K300:a}{K300:a}");
        told("[a] [a]", "{K300:a} {K300:a}");
    }

    /** "its name is what is between them as it is written" */
    private static void namesBetween() {
        told("[abcdef]", "{K301:abcdef}");
        told("[abcdefg]", "[abcdefg]");
        told("[abcde]", "[abcde]");
        told("[A]", "[A]");
        told("[ a]", "[ a]");
        told("[a ]", "[a ]");
        told("[*a*]", "[{E:a}]");
        told("[`a`]", "[{C:a}]");
        told("[\\a]", "[\\a]");
        told("[\\!]", "[!]");
        inline("[a\nb]\n\n# ab", "[a\nb]");
    }

    /** "or, if [, a name, and ] follow, with 1 to 6 letters and digits in between, that one, and these are passed, too" */
    private static void namesBehind() {
        told("[b][a]c", "{K300:b}c");
        told("[b][abcdef]c", "{K301:b}c");
        told("[a][abcdef]", "{K301:a}");
        told("[a][]", "{K300:a}[]");
        told("[a][abcdefg]", "{K300:a}[abcdefg]");
        told("[a][b c]", "{K300:a}[b c]");
        told("[a][.b]", "{K300:a}[.b]");
        told("[a][b.]", "{K300:a}[b.]");
        told("[a][", "{K300:a}[");
        told("[a][b", "{K300:a}[b");
        told("[a][]b]", "{K300:a}[]b]");
        told("[b] [a]", "[b] {K300:a}");
        told("[b]\n[a]", "[b]\n{K300:a}");
        told("[][a]", "{K300:}");
        told("[*b* `c`][a]", "{K300:{E:b} {C:c}}");
        told("[b\nc][a]", "{K300:b\nc}");
    }

    /** "If there is a DEFINITION of the name, or else a HEADING whose anchor is the name, the first one" */
    private static void whatIsMeant() {
        inline("[a]\n# a\n[a]: t", "{K300:a}");
        inline("[a]\n# a\n# a", "{K400:a}");
        inline("[a]\n# b\n> # a\n# a", "{K401:a}");
        inline("[a]\n\n[b]: t\n[a]: u\n[a]: v", "{K301:a}");
        inline("[a][b]\n# a", "[a][b]");
        inline("[a][b]\n# b", "{K400:a}");
        Due.same("ahead of the LINK", Sheet.shownOf("# a\n[a]"), "{D:{H101:a}{P:{K400:a}}}");
        Due.same("around the LINK", Sheet.shownOf("# [a]"), "{D:{H101:{K400:a}}}");
        Due.same("many DEFINITIONs", Sheet.shownOf("[a]: t\n".repeat(32) + "[b]: u\n[b]"), "{D:{P:{K332:b}}}");
        Due.same("many HEADINGs", new Sheet("#\n".repeat(110) + "# b\n[b]").numbers(0).endsWith(" 1012 510 98 2012 2006 2000"), true);
    }

    /** "all that is between becomes a LINK, and all [ ahead of it are open no more" */
    private static void openNoMore() {
        told("[b [a] c][a]", "[b {K300:a} c]{K300:a}");
        told("[[[a]]][a]", "[[{K300:a}]]{K300:a}");
        told("[b [a]] [a]", "[b {K300:a}] {K300:a}");
        told("[b [c][a] d][a]", "[b {K300:c} d]{K300:a}");
    }

    /** "otherwise both are characters like others, that [ is open no more, and it is gone on right behind the ]" */
    private static void goneOnBehind() {
        told("[b]", "[b]");
        told("[b]]", "[b]]");
        told("[[b]]", "[[b]]");
        told("[c [b] d][a]", "{K300:c [b] d}");
        told("[[b]][a]", "{K300:[b]}");
        told("[b][c][a]", "[b]{K300:c}");
        told("[b][c]", "[b][c]");
        told("[a][b]", "[a][b]");
        told("[b]*c*", "[b]{E:c}");
        told("[b]`c`", "[b]{C:c}");
        told("*[b]*", "{E:[b]}");
    }

    /** What may be at the outer side of a run, and in the same order whether it opens or closes towards each inner side. */
    private static void flanks(String name, String[] outer, String[] inner, BinaryOperator<String> text) {
        String[] may = {"11111100", "11111100", "11111100", "11111100", "11111100", "11111100", "11000000", "11000000", "11000000"};
        for (int row = 0; row < outer.length; row++) {
            for (int column = 0; column < inner.length; column++) {
                String run = text.apply(outer[row], inner[column]);
                Due.same(run + name, Sheet.inlineOf(run).contains("{E:"), may[row].charAt(column) == '1');
            }
        }
    }

    /** "it may open, if behind it is no blank, line end or the end, and, besides, behind it is no sign, or ahead of it is ..." */
    private static void opens() {
        String[] ahead = {"", "x ", "x\n", "x!", "x`c`", "x\\!", "x", "X", "9"};
        String[] behind = {"b", "9", "!b", "\\!b", "`c`b", "(b", " b", "\nb"};
        flanks(" opens", ahead, behind, (outer, inner) -> outer + "*" + inner + "z*");
        inline("*", "*");
        inline("a *", "a *");
    }

    /** "it may close likewise, ahead and behind being exchanged" */
    private static void closes() {
        String[] behind = {"", " x", "\nx", "!x", "`c`x", "\\!x", "x", "X", "9"};
        String[] ahead = {"b", "9", "b!", "b\\!", "b`c`", "b)", "b ", "b\n"};
        flanks(" closes", behind, ahead, (outer, inner) -> "*z" + inner + "*" + outer);
        inline("*a *", "*a *");
        inline("* a*", "* a*");
        inline("*a\n*", "*a\n*");
    }

    /** "runs of * that lie in it ... are looked at, those in a LINK only among themselves" */
    private static void inLinks() {
        told("[*b*][a]", "{K300:{E:b}}");
        told("*[b*][a]", "*{K300:b*}");
        told("[*b][a]*", "{K300:*b}*");
        told("*[b][a]*", "{E:{K300:b}}");
        told("*c [*b][a] d*", "{E:c {K300:*b} d}");
        told("*c [b*][a] d*", "{E:c {K300:b*} d}");
        told("**c [*b*][a] d**", "{S:c {K300:{E:b}} d}");
        told("[*b*][a] *c* [**d**][a]", "{K300:{E:b}} {E:c} {K300:{S:d}}");
        told("*[b* c]*", "{E:[b} c]*");
        told("[b*c**d][a] e*f*", "{K300:b*c**d} e{E:f}");
    }

    /** "if one of both may open and close, their lengths together are not a multiple of 3, unless both are" */
    private static void multiplesOfThree() {
        for (int opener = 1; opener < 8; opener++) {
            for (int closer = 1; closer < 8; closer++) {
                boolean isBroken = (opener + closer) % 3 == 0 && (opener % 3 != 0 || closer % 3 != 0);
                String open = "*".repeat(opener);
                String close = "*".repeat(closer);
                paired("a" + open + "b" + close + "c", !isBroken);
                paired("a" + open + "b" + close, !isBroken);
                paired(open + "b" + close + "c", !isBroken);
                paired(open + "b" + close, true);
            }
        }
        inline("a***b***c", "a{E:{S:b}}c");
        inline("a***b******c", "a{E:{S:b}}***c");
        inline("a*b**c", "a*b**c");
        inline("*a**", "{E:a}*");
    }

    private static void paired(String text, boolean isPaired) {
        Due.same(text + " is paired", Sheet.inlineOf(text).contains("{"), isPaired);
    }

    /** "their lengths (as they are written)" */
    private static void lengthsAsWritten() {
        inline("x****a*b**c", "x***{E:a}b**c");
        inline("x*****a**b*c", "x***{S:a}b*c");
        inline("x***a**b*c", "x{E:{S:a}b}c");
        inline("x**a*****b***", "x{S:a}{E:{S:b}}");
        Due.same("in a second PARAGRAPH", Sheet.shownOf("***a b*c\n\na*b**c"), "{D:{P:**{E:a b}c}{P:a*b**c}}");
    }

    /** "STRONG, if both have 2 left or more, otherwise EMPHASIS, and both have 2, or 1, less" */
    private static void twoLeft() {
        inline("*a*", "{E:a}");
        inline("*a**", "{E:a}*");
        inline("**a*", "*{E:a}");
        inline("**a**", "{S:a}");
        inline("**a***", "{S:a}*");
        inline("***a**", "*{S:a}");
        inline("***a***", "{E:{S:a}}");
        inline("****a***", "*{E:{S:a}}");
        inline("****a****", "{S:{S:a}}");
        inline("*****a*****", "{E:{S:{S:a}}}");
        inline("***a* b**", "{S:{E:a} b}");
        inline("***a** b*", "{E:{S:a} b}");
        inline("*a **b***", "{E:a {S:b}}");
        inline("**a *b***", "{S:a {E:b}}");
    }

    /** "the nearest one ahead that may open, has * left, and does not break the rule" */
    private static void nearest() {
        inline("*a *b*", "*a {E:b}");
        inline("*a *b* c*", "{E:a {E:b} c}");
        inline("*a* b*", "{E:a} b*");
        inline("*a b**c*", "{E:a b**c}");
        inline("*a b**c d***e*", "{E:a b{S:c d}}e*");
        inline("**a *b c**", "*{E:a {E:b c}}");
        inline("**a *b** c*", "{E:{E:a {E:b}} c}");
        inline("*a **b* c**", "{E:a {E:{E:b} c}}");
        inline("*a * b*", "{E:a * b}");
        inline("a*b*c", "a{E:b}c");
        inline("a*b*c*", "a{E:b}c*");
    }

    /** "and runs between them can do nothing any more" */
    private static void runsBetween() {
        inline("*a b**c* d**", "{E:a b**c} d**");
        inline("**a b*c d** e*", "{S:a b*c d} e*");
    }

    /** "* that are left are characters like others." */
    private static void starsLeft() {
        inline("*", "*");
        inline("**", "**");
        inline("* * *", "* * *");
        inline("a * b", "a * b");
        inline("a* b*", "a* b*");
        inline("*a *b", "*a *b");
        inline("*****a*", "****{E:a}");
        Due.same("one text with others", new Sheet("b **a c").told(3), "0 0 7");
    }

    /** "A text node has as many characters as follow one another in the same node." */
    private static void textNodes() {
        Due.same("across lines, escapes, and what is no mark", new Sheet("a\n\\*b[c] ``d *e").told(3), "0 0 14");
        Due.same("around a LINK", new Sheet("a[b][x]c\n#").kinds(), "DPTKTTH");
        Due.same("around CODE", new Sheet("a`b`c").kinds(), "DPTCT");
        Due.same("around EMPHASIS", new Sheet("a*b*c").kinds(), "DPTETT");
        Due.same("stars outside", new Sheet("***a**").kinds(), "DPTST");
        Due.same("stars within", new Sheet("*a **b*").told(3), "0 0 4 0 1");
        Due.same("an empty LINK", new Sheet("[][x]\n#").kinds(), "DPKH");
        Due.same("children of marks", new Sheet("*a `b` [c][x]*\n#").told(2), "2 1 4 0 0 0 1 0 0");
    }

    /** Texts that are full of one sign. */
    private static void largest() {
        for (String sign : new String[] {"*", "`", "[", "]", "!"}) {
            Due.same("all " + sign, new Sheet(sign.repeat(240)).told(3), "0 0 240");
        }
        Due.same("all \\", new Sheet("\\".repeat(240)).told(3), "0 0 120");
        Due.same("all []", new Sheet("[]".repeat(120)).told(3), "0 0 240");
        Due.same("all \\ but one", new Sheet("\\".repeat(239)).told(3), "0 0 120");
        Due.same("one long CODE", new Sheet("`" + "a".repeat(238) + "`").told(3), "0 0 238");
        Due.same("one EMPHASIS", new Sheet("*" + "a".repeat(238) + "*").told(3), "0 0 0 238");
        Due.same("nested", new Sheet("*".repeat(119) + "ab" + "*".repeat(119)).tongue.nodes(), 63);
        Due.same("many LINKs", new Sheet("[x] ".repeat(59) + "\n#").tongue.count(Marktongue.LINK), 59);
        Due.same("many EMPHASIS", new Sheet("*a* ".repeat(60)).tongue.count(Marktongue.EMPHASIS), 60);
        Due.same("many CODEs", new Sheet("`a` ".repeat(60)).tongue.count(Marktongue.CODE), 60);
    }
}
