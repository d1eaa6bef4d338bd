/** Promises 7 to 12 for what is in a PARAGRAPH or HEADING. */
public final class InlineTest {
    private static final Class<IndexOutOfBoundsException> PLACE = IndexOutOfBoundsException.class;
    private static final Class<IllegalStateException> STATE = IllegalStateException.class;

    public static void main(String[] args) {
        escapes();
        code();
        emphasis();
        flanks();
        multiplesOfThree();
        links();
        references();
        linksAndMarks();
        anchors();
        textNodes();
        leads();
        Due.finish("InlineTest");
    }

    private static void inline(String text, String want) {
        Due.same("inline " + text.replace("\n", "/"), Sheet.inlineOf(text), want);
    }

    private static void escapes() {
        inline("\\*a\\*", "*a*");
        inline("\\a\\ \\", "\\a\\ \\");
        inline("\\\\*a*", "\\{E:a}");
        inline("a\\\nb", "a\\\nb");
        inline("\\**a*", "*{E:a}");
        inline("\\``a`", "`{C:a}");
        inline("\\[a]\n\n[a]: t", "[a]");
        inline("[a\\]\n\n[a]: t", "[a]");
        inline("\\~\\#\\0", "~#\\0");
        inline("\\9\\A\\Z\\a\\z\\@\\^\\/\\:", "\\9\\A\\Z\\a\\z@^/:");
        inline("\\a *b*", "\\a {E:b}");
    }

    private static void code() {
        inline("`a`", "{C:a}");
        inline("`` a`b ``", "{C: a`b }");
        inline("`a``b`", "{C:a``b}");
        inline("``a`", "``a`");
        inline("`a``", "`a``");
        inline("`a\\`b`", "{C:a\\}b`");
        inline("`*a*` `[x]`\n\n[x]: t", "{C:*a*} {C:[x]}");
        inline("*`a*`", "*{C:a*}");
        inline("`a\n  b`", "{C:a\nb}");
        inline("```` ``` ` ```` `", "{C: ``` ` } `");
        inline("``a`b``", "{C:a`b}");
    }

    private static void emphasis() {
        inline("*a*", "{E:a}");
        inline("**a**", "{S:a}");
        inline("***a***", "{E:{S:a}}");
        inline("****a****", "{S:{S:a}}");
        inline("*a **b** c*", "{E:a {S:b} c}");
        inline("**a *b* c**", "{S:a {E:b} c}");
        inline("**a*", "*{E:a}");
        inline("*a**", "{E:a}*");
        inline("*a **b*", "*a *{E:b}");
        inline("*a ** b*", "{E:a ** b}");
        inline("**a*b**", "{S:a*b}");
        inline("*a* *b*", "{E:a} {E:b}");
        inline("***a* b**", "{S:{E:a} b}");
        inline("***a** b*", "{E:{S:a} b}");
        inline("a* b*", "a* b*");
        inline("*a *b", "*a *b");
        inline("**", "**");
        inline("*a\nb*", "{E:a\nb}");
        inline("*****a***", "**{E:{S:a}}");
    }

    private static void flanks() {
        inline("* a*", "* a*");
        inline("*a *", "*a *");
        inline("a*b*c", "a{E:b}c");
        inline("a*!b*", "a*!b*");
        inline("a *!b*", "a {E:!b}");
        inline("!*!b*", "!{E:!b}");
        inline("*b!*a", "*b!*a");
        inline("*b!* a", "{E:b!} a");
        inline("*b!*!", "{E:b!}!");
        inline("*a\\**", "{E:a*}");
        inline("a\\**b*", "a*{E:b}");
        inline("*`a`*", "{E:{C:a}}");
        inline("x*`a`*", "x*{C:a}*");
        Due.same("after a line end", Sheet.inlineOf("a\n*b*\nc"), "a\n{E:b}\nc");
    }

    private static void multiplesOfThree() {
        inline("*a**b*", "{E:a**b}");
        inline("a*b**c", "a*b**c");
        inline("a**b*c", "a**b*c");
        inline("*a**b", "*a**b");
        inline("*a***b", "{E:a}**b");
        inline("a***b***c", "a{E:{S:b}}c");
        inline("**a*b*c**", "{S:a{E:b}c}");
        inline("*a**b**c*", "{E:a{S:b}c}");
        inline("*a****b", "{E:a}***b");
    }

    private static void links() {
        inline("[a]\n\n[a]: t", "{K300:a}");
        inline("[b]\n\n[a]: t\n[b]: u\n[b]: v", "{K301:b}");
        inline("[A]\n\n[a]: t", "[A]");
        inline("[ a]\n\n[a]: t", "[ a]");
        inline("[a b]\n\n[a]: t", "[a b]");
        inline("a]\n\n[a]: t", "a]");
        inline("[[a]\n\n[a]: t", "[{K300:a}");
        inline("[[a]]\n\n[a]: t", "[{K300:a}]");
        inline("[b [a] c][a]\n\n[a]: t", "[b {K300:a} c]{K300:a}");
        inline("[x [b] a][a]\n\n[a]: t", "{K300:x [b] a}");
        inline("[a]\n\n> - [a]: t", "{K300:a}");
        inline("[]", "[]");
    }

    private static void references() {
        inline("[b c][a]\n\n[a]: t", "{K300:b c}");
        inline("[a][b]\n\n[a]: t", "[a][b]");
        inline("[a][b]\n\n[b]: t", "{K300:a}");
        inline("[a][b][c]\n\n[c]: t", "[a]{K300:b}");
        inline("[a][]\n\n[a]: t", "{K300:a}[]");
        inline("[a][b.]\n\n[a]: t", "{K300:a}[b.]");
        inline("[a][b", "[a][b");
        inline("[a][1234567]\n\n[a]: t", "{K300:a}[1234567]");
        inline("[a][123456]\n\n[123456]: t", "{K300:a}");
        inline("[][a]b\n\n[a]: t", "{K300:}b");
        inline("[a] [b]\n\n[b]: t", "[a] {K300:b}");
    }

    private static void linksAndMarks() {
        inline("*[a]*\n\n[a]: t", "{E:{K300:a}}");
        inline("[*b*][a]\n\n[a]: t", "{K300:{E:b}}");
        inline("*[b*][a]\n\n[a]: t", "*{K300:b*}");
        inline("[*b][a]*\n\n[a]: t", "{K300:*b}*");
        inline("*x [*b][a] y*\n\n[a]: t", "{E:x {K300:*b} y}");
        inline("*[b*]", "{E:[b}]");
        inline("[`]`][a]\n\n[a]: t", "{K300:{C:]}}");
        inline("[\\]][a]\n\n[a]: t", "{K300:]}");
        inline("**[*b*][a] c**\n\n[a]: t", "{S:{K300:{E:b}} c}");
    }

    private static void anchors() {
        inline("[Ab1]\n# A*b* `1`", "{K400:Ab1}");
        inline("[abcdef]\n# abcdefgh", "{K400:abcdef}");
        inline("[x]\n# *!*", "{K400:x}");
        inline("[x]\n#", "{K400:x}");
        inline("[b]\n# a\n# b\n## b", "{K401:b}");
        inline("[a]\n# a\n[a]: t", "{K300:a}");
        inline("[t][a]\n\n> # a", "{K400:t}");
        inline("[abcdef]\n# abcde", "[abcdef]");
        Due.same("in a heading", Sheet.shownOf("# [a]"), "{D:{H101:{K400:a}}}");
        inline("[x]\n# [a]", "[x]");
    }

    private static void textNodes() {
        Due.same("one text", new Sheet("a\\*b[c]\nd `").told(3), "0 0 10");
        Due.same("texts around", new Sheet("a *b* c").kinds(), "DPTETT");
        Due.same("stars that are left", new Sheet("**a*").told(3), "0 0 1 0 1");
        Due.same("an empty link", new Sheet("a[][x]b\n# x").kinds(), "DPTKTHT");
        Due.same("code has no text", new Sheet("`a\\b`").kinds(), "DPC");
        Due.same("code characters", new Sheet("`a\\\n b`").told(3), "0 0 4");
        Due.same("an empty heading", new Sheet("# ").kinds(), "DH");
        Due.same("nested", new Sheet("***a***").told(1), "-1 0 1 2 3");
    }

    private static void leads() {
        Sheet sheet = new Sheet("[a] [b] *[c][a]*\n\n# b\n> [a]: t\n[a]: u");
        Due.same("11 kinds", sheet.kinds(), "DPKTTKTTEKTHTQ..");
        Due.same("11 definition", sheet.tongue.leads(2), 14);
        Due.same("11 heading", sheet.tongue.leads(5), 11);
        Due.same("11 by another name", sheet.tongue.leads(9), 14);
        for (int node : new int[] {0, 1, 3, 8, 14, 15}) {
            Due.raises("11 no link " + node, STATE, () -> sheet.tongue.leads(node));
        }
        for (int node : new int[] {-1, 16, Integer.MAX_VALUE, Integer.MIN_VALUE}) {
            Due.raises("11 node " + node, PLACE, () -> sheet.tongue.leads(node));
        }
    }
}
