/** Texts and runs of calls in which several sentences of the document meet. */
public final class MeetingsTest {
    public static void main(String[] args) {
        lazyLines();
        linesThatAreNotLazy();
        lazyLinesThatBegin();
        blankLinesAndLooseness();
        fencesInContainers();
        namesInLazyLines();
        linksAndRuns();
        linksAndCode();
        runsAndCode();
        escapesAmongMarks();
        marksAcrossLines();
        headingsThatLeadToThemselves();
        formattedKeptLoadedMerged();
        mergedIntoBlocks();
        conflictsAndTooLong();
        editsOfOneCharacter();
        Due.finish("MeetingsTest");
    }

    private static void block(String text, String want, String owners) {
        Sheet sheet = new Sheet(text);
        Due.same(text.replace("\n", "/"), sheet.shown(), want);
        Due.same("owners of " + text.replace("\n", "/"), sheet.owners(), owners);
    }

    /** A line that goes on in some containers, not in others, and is a line more of the PARAGRAPH in these. */
    private static void lazyLines() {
        block("> a\nb", "{D:{Q:{P:a\nb}}}", "1 1 2 2 2");
        block("- > a\n  b", "{D:{L0:{I:{Q:{P:a\nb}}}}}", "2 2 3 3 4 4 2 2 4");
        block("- > a\n b", "{D:{L0:{I:{Q:{P:a\nb}}}}}", "2 2 3 3 4 4 4 4");
        block("> - a\n>  b", "{D:{Q:{L0:{I:{P:a\nb}}}}}", "1 1 3 3 4 4 1 1 4 4");
        block("> - a\n>b\n> c\n>   d", "{D:{Q:{L0:{I:{P:a\nb\nc\nd}}}}}", "1 1 3 3 4 4 1 4 4 1 1 4 4 1 1 3 3 4");
        block("> > a\nb\n> c\n> > d", "{D:{Q:{Q:{P:a\nb\nc\nd}}}}", "1 1 2 2 3 3 3 3 1 1 3 3 1 1 2 2 3");
        block("1. > a\n   b\n  c", "{D:{L0:{I:{Q:{P:a\nb\nc}}}}}", "2 2 2 3 3 4 4 2 2 2 4 4 4 4 4");
    }

    /** What would be lazy, if it did not begin a block, or if the PARAGRAPH were still open. */
    private static void linesThatAreNotLazy() {
        block("> a\n>\nb", "{D:{Q:{P:a}}{P:b}}", "1 1 2 2 1 1 4");
        block("> a\n\nb", "{D:{Q:{P:a}}{P:b}}", "1 1 2 2 0 4");
        block("- > a\n\n  b", "{D:{L1:{I:{Q:{P:a}}{P:b}}}}", "2 2 3 3 4 4 2 2 2 6");
        block("> # a\nb", "{D:{Q:{H101:a}}{P:b}}", "1 1 2 2 2 2 4");
        block("> [a]: t\nb", "{D:{Q:}{P:b}}", "1 1 2 2 2 2 2 2 2 3");
        block("> ~~~\nb", "{D:{Q:{F:}}{P:b}}", "1 1 2 2 2 2 3");
        block("> -\nb", "{D:{Q:{L0:{I:}}}{P:b}}", "1 1 3 3 4");
        block("> - a\n> \n>b", "{D:{Q:{L0:{I:{P:a}}}{P:b}}}", "1 1 3 3 4 4 1 1 3 1 6");
    }

    /** A line that closes containers, although a PARAGRAPH is open in them, as it begins a block. */
    private static void lazyLinesThatBegin() {
        block("> - a\n# b\nc", "{D:{Q:{L0:{I:{P:a}}}}{H101:b}{P:c}}", "1 1 3 3 4 4 6 6 6 6 8");
        block("> - a\n> # b\n>   c", "{D:{Q:{L0:{I:{P:a}}}{H101:b}{P:c}}}", "1 1 3 3 4 4 1 1 6 6 6 6 1 1 8 8 8");
        block("> a\n- b\nc\n> d", "{D:{Q:{P:a}}{L0:{I:{P:b\nc}}}{Q:{P:d}}}", "1 1 2 2 5 5 6 6 6 6 8 8 9");
        block("- > a\n~~~\nb", "{D:{L0:{I:{Q:{P:a}}}}{F:b\n}}", "2 2 3 3 4 4 6 6 6 6 6");
        block("- > a\n  - b\nc", "{D:{L0:{I:{Q:{P:a}}{L0:{I:{P:b\nc}}}}}}", "2 2 3 3 4 4 2 2 7 7 8 8 8");
        block("- a\n > b", "{D:{L0:{I:{P:a\n> b}}}}", "2 2 3 3 3 3 3 3");
        block("- a\n- b\nc\n+ d", "{D:{L0:{I:{P:a}}{I:{P:b\nc}}}{L0:{I:{P:d}}}}", "2 2 3 3 5 5 6 6 6 6 9 9 10");
        block("> a\n> > b\nc\n> d", "{D:{Q:{P:a}{Q:{P:b\nc\nd}}}}", "1 1 2 2 1 1 4 4 5 5 5 5 1 1 5");
        block("> a\n-\nb", "{D:{Q:{P:a}}{L0:{I:}}{P:b}}", "1 1 2 2 5 5 6");
        block("- a\n1.\n   b", "{D:{L0:{I:{P:a}}}{L0:{I:{P:b}}}}", "2 2 3 3 6 6 6 6 6 6 7");
    }

    /** A blank line counts in whatever container it is, but only for the line right behind it. */
    private static void blankLinesAndLooseness() {
        block("> - a\n>\n> - b", "{D:{Q:{L1:{I:{P:a}}{I:{P:b}}}}}", "1 1 3 3 4 4 1 3 1 1 6 6 7");
        block("- > a\n  >\n  # b", "{D:{L1:{I:{Q:{P:a}}{H101:b}}}}", "2 2 3 3 4 4 2 2 3 3 2 2 6 6 6");
        block("- > a\n  >\n- b", "{D:{L1:{I:{Q:{P:a}}}{I:{P:b}}}}", "2 2 3 3 4 4 2 2 3 3 6 6 7");
        block("- - a\n\n    b", "{D:{L0:{I:{L1:{I:{P:a}{P:b}}}}}}", "2 2 4 4 5 5 4 2 2 4 4 7");
        block("- - a\n\n  - b", "{D:{L0:{I:{L1:{I:{P:a}}{I:{P:b}}}}}}", "2 2 4 4 5 5 4 2 2 7 7 8");
        block("- - a\n\n  + b", "{D:{L1:{I:{L0:{I:{P:a}}}{L0:{I:{P:b}}}}}}", "2 2 4 4 5 5 4 2 2 8 8 9");
        block("- - a\n\n- b", "{D:{L1:{I:{L0:{I:{P:a}}}}{I:{P:b}}}}", "2 2 4 4 5 5 4 7 7 8");
        block("- a\n\n+ b", "{D:{L0:{I:{P:a}}}{L0:{I:{P:b}}}}", "2 2 3 3 2 6 6 7");
        block("-\n\n  a\n- b", "{D:{L0:{I:{P:a}}{I:{P:b}}}}", "2 2 2 2 2 3 3 5 5 6");
        block("- a\n\n- > b\n  > c", "{D:{L1:{I:{P:a}}{I:{Q:{P:b\nc}}}}}", "2 2 3 3 2 5 5 6 6 7 7 5 5 6 6 7");
        block("- a\n  >\n  b", "{D:{L0:{I:{P:a}{Q:}{P:b}}}}", "2 2 3 3 2 2 5 5 2 2 6");
        block("> a\n\n- b", "{D:{Q:{P:a}}{L0:{I:{P:b}}}}", "1 1 2 2 0 5 5 6");
    }

    /** Lines of a FENCE are not blank, not lazy and begin nothing, as long as all containers ahead of it go on. */
    private static void fencesInContainers() {
        block("- ~~~\n\n  # a\n\n- b", "{D:{L0:{I:{F:\n# a\n\n}}{I:{P:b}}}}", "2 2 3 3 3 3 3 2 2 3 3 3 3 3 4 4 5");
        block("- ~~~\n  ~~~\n\n- b", "{D:{L1:{I:{F:}}{I:{P:b}}}}", "2 2 3 3 3 3 2 2 3 3 3 3 2 4 4 5");
        block("> ~~~\n> > a\n>\n>   ~~~\n> ~~~ \nb", "{D:{Q:{F:> a\n\n  ~~~\n}}{P:b}}",
                "1 1 2 2 2 2 1 1 2 2 2 2 1 2 1 1 2 2 2 2 2 2 1 1 2 2 2 2 2 3");
        block("> ~~~\n\n~~~\n> a", "{D:{Q:{F:}}{F:> a\n}}", "1 1 2 2 2 2 0 3 3 3 3 3 3 3");
        block("- ~~~\n ~~~", "{D:{L0:{I:{F:}}}{P:~~~}}", "2 2 3 3 3 3 4 4 4 4");
        block("1. > ~~~\n   > a\n   b", "{D:{L0:{I:{Q:{F:a\n}}{P:b}}}}", "2 2 2 3 3 4 4 4 4 2 2 2 3 3 4 4 2 2 2 5");
        block("> a\n~~~\n> b\n~~~\nc", "{D:{Q:{P:a}}{F:> b\n}{P:c}}", "1 1 2 2 4 4 4 4 4 4 4 4 4 4 4 4 5");
    }

    /** A lazy line defines nothing, but what stands in it may be a LINK to what is defined elsewhere. */
    private static void namesInLazyLines() {
        block("> a\n[x]: t", "{D:{Q:{P:a\n[x]: t}}}", "1 1 2 2 2 2 2 2 2 2");
        Due.same("told behind", Sheet.shownOf("> a\n[x]: t\n\n- [x]: u"), "{D:{Q:{P:a\n{K300:x}: t}}{L0:{I:}}}");
        Due.same("told in the same line", Sheet.shownOf("> a\n- [x]: t\n[x]"), "{D:{Q:{P:a}}{L0:{I:}}{P:{K300:x}}}");
        Due.same("told in a FENCE", Sheet.shownOf("~~~\n[x]: t\n~~~\n[x]"), "{D:{F:[x]: t\n}{P:[x]}}");
        Due.same("a HEADING in a QUOTE", Sheet.shownOf("[b]\n> a\n# b\n> # b"), "{D:{P:{K400:b}}{Q:{P:a}}{H101:b}{Q:{H101:b}}}");
        Due.same("first in the tree", Sheet.shownOf("> - [x]: t\n[x]: u\n\n[y][x]"), "{D:{Q:{L0:{I:}}}{P:{K300:y}}}");
        Due.same("where it leads", new Sheet("> - [x]: t\n[x]: u\n\n[y][x]").ways(), "4");
    }

    private static void told(String text, String want) {
        Due.same(text.replace("\n", "/"), Sheet.inlineOf(text + "\n\n[x]: t"), want);
    }

    /** Runs in a LINK are looked at when it is made, the others at the end, as if the LINK had none. */
    private static void linksAndRuns() {
        told("*a [b*][x] c*", "{E:a {K300:b*} c}");
        told("*a [b* c* d]", "{E:a [b} c* d]");
        told("[*a [b*][x] c*]", "[{E:a {K300:b*} c}]");
        told("**[*a **b** c*][x]**", "{S:{K300:{E:a {S:b} c}}}");
        told("*[**a*][x]**", "{E:{K300:*{E:a}}}*");
        told("a*[b][x]*c", "a*{K300:b}*c");
        told("*a[*b*][x]c*", "{E:a{K300:{E:b}}c}");
        told("*[a][x]*[b][x]*", "{E:{K300:a}}{K300:b}*");
        told("[a*][x][*b][x]", "{K300:a*}{K300:*b}");
        told("[[*a][x]*][x]", "[{K300:*a}*]{K300:x}");
        told("***[a][x]** b*", "{E:{S:{K300:a}} b}");
        told("*a**[b*][x]**c*", "{E:a}*{K300:b*}*{E:c}");
        told("*[a][x", "*[a][x");
    }

    private static void linksAndCode() {
        told("[a`]`][x]", "{K300:a{C:]}}");
        told("[a][`x`]", "[a][{C:x}]");
        told("`[a][x]`", "{C:[a][x]}");
        told("[`a][x]`", "[{C:a][x]}");
        told("[a`b][x]", "{K300:a`b}");
        told("`[x]``", "`{K300:x}``");
        told("[a``b`c][x]`", "[a``b{C:c][x]}");
        told("[`x`]", "[{C:x}]");
        told("[`a`][x][`b`][x]", "{K300:{C:a}}{K300:{C:b}}");
    }

    private static void runsAndCode() {
        told("*a `b*` c*", "{E:a {C:b*} c}");
        told("*a `b* c", "{E:a `b} c");
        told("*`a`*", "{E:{C:a}}");
        told("a*`b`*c", "a*{C:b}*c");
        told("a *`b`* c", "a {E:{C:b}} c");
        told("**`**`**", "{S:{C:**}}");
        told("*a``*`b`", "{E:a``}{C:b}");
        told("`*`*a*", "{C:*}{E:a}");
    }

    /** The sign behind \ is no mark, but it counts as a sign beside a run, and in a name it is as it is written. */
    private static void escapesAmongMarks() {
        told("*a\\**", "{E:a*}");
        told("\\**a*", "*{E:a}");
        told("*\\*a*", "{E:*a}");
        told("a*\\*b*", "a**b*");
        told("a\\**b*", "a*{E:b}");
        told("[a\\][x]", "[a]{K300:x}");
        told("[a]\\[x]", "[a][x]");
        told("\\[a][x]", "[a]{K300:x}");
        told("[\\]][x]", "{K300:]}");
        told("[a][\\x]", "[a][\\x]");
        told("`a\\`*b*", "{C:a\\}{E:b}");
        told("\\`a`b`", "`a{C:b}");
        told("\\\\`a\\\\`", "\\{C:a\\\\}");
        told("*a\\", "*a\\");
    }

    /** Marks go on from line to line of a PARAGRAPH, whatever containers these lines are in. */
    private static void marksAcrossLines() {
        Due.same("lazily", Sheet.shownOf("> *a\nb* `c\n> d` [e\n> f][x]\n\n[x]: t"), "{D:{Q:{P:{E:a\nb} {C:c\nd} {K300:e\nf}}}}");
        Due.same("not to another block", Sheet.shownOf("- *a\n- b*"), "{D:{L0:{I:{P:*a}}{I:{P:b*}}}}");
        told("*a\n*b*", "*a\n{E:b}");
        told("a*\n*b", "a*\n*b");
        told("[a\n][x]", "{K300:a\n}");
        told("[a]\n[x]", "[a]\n{K300:x}");
        told("a \\\n *b*", "a \\\n{E:b}");
    }

    private static void headingsThatLeadToThemselves() {
        Sheet sheet = new Sheet("# *[ab]* c\n## [ab][abc]\n[abc][x]");
        Due.same("anchors with marks", sheet.shown(), "{D:{H101:{E:[ab]} c}{H102:{K400:ab}}{P:[abc][x]}}");
        Due.same("ways", sheet.ways(), "1");
        Due.same("no letters", Sheet.shownOf("# *\n[x]\n# [x]"), "{D:{H101:*}{P:{K400:x}}{H101:{K400:x}}}");
        Due.same("itself", new Sheet("# [a]").ways(), "1");
        Due.same("a DEFINITION instead", new Sheet("# [a]\n[a]: t").ways(), "4");
    }

    /** The tree and the printing as the second reading has them. */
    private static void stands(Sheet sheet, String text) {
        Due.same("all of " + text.replace("\n", "/"), sheet.everything(), new Reading(text).everything());
    }

    /** The tree and the printing are asked for behind each call that makes another text. */
    private static void formattedKeptLoadedMerged() {
        String first = "\n- [a] \n\n\n  ~~~\n\n\n  b \n  ~~~  \n \n# a  \n\n";
        String formatted = "- [a]\n\n  ~~~\n\n\n  b \n  ~~~  \n\n# a";
        String other = formatted.replace("- [a]", "1. [a]");
        Sheet sheet = new Sheet(first);
        stands(sheet, first);
        Due.same("format", sheet.tongue.format(), 8);
        stands(sheet, formatted);
        Due.same("its tree", sheet.shown(), "{D:{L1:{I:{P:{K400:a}}{F:\n\nb \n}}}{H101:a}}");
        Due.same("at rest", sheet.tongue.format(), 0);
        Due.same("keep 0", sheet.tongue.keep(0), 0);
        stands(sheet, formatted);
        sheet.type(formatted + "\n[a]: t");
        Due.same("keep 1", sheet.tongue.keep(1), 0);
        stands(sheet, formatted + "\n[a]: t");
        Due.same("load 0", sheet.tongue.load(0), formatted.length());
        stands(sheet, formatted);
        sheet.type(other);
        stands(sheet, other);
        Due.same("merge", sheet.tongue.merge(), 0);
        stands(sheet, other + "\n[a]: t");
        Due.same("its tree", sheet.shown(), "{D:{L0:{I:{P:{K300:a}}}}{P:~~~}{P:b\n~~~}{H101:a}}");
        Due.same("format", sheet.tongue.format(), 4);
        stands(sheet, "1. [a]\n\n  ~~~\n\n  b\n  ~~~\n\n# a\n[a]: t");
        Due.same("clear", sheet.tongue.clear(), other.length() + 3);
        stands(sheet, "");
        Due.same("load 1", sheet.tongue.load(1), formatted.length() + 7);
        stands(sheet, formatted + "\n[a]: t");
    }

    private static Sheet sheetWith(String base, String now, String other) {
        Sheet sheet = new Sheet(base);
        sheet.tongue.keep(0);
        sheet.type(other);
        sheet.tongue.keep(1);
        sheet.type(now);
        sheet.tongue.growTree();
        return sheet;
    }

    /** Lines from both texts are blocks of one tree then. */
    private static void mergedIntoBlocks() {
        Sheet fence = sheetWith("> a\n\n> b", "~~~\n> a\n\n> b", "> a\n\n> [c]\n[c]: t");
        Due.same("a FENCE ahead", fence.tongue.merge() + fence.shown(), "0{D:{F:> a\n\n> [c]\n[c]: t\n}}");
        Sheet link = sheetWith("a\n\nb", "[c]\n\nb", "a\n\n> [c]: t");
        Due.same("a LINK and its DEFINITION", link.tongue.merge() + link.shown() + link.ways(), "0{D:{P:{K300:c}}{Q:}}5");
        Sheet stars = sheetWith("a\nb\nc", "*a\nb\nc", "a\nb\nc*");
        Due.same("two runs", stars.tongue.merge() + stars.shown(), "0{D:{P:{E:a\nb\nc}}}");
        Sheet loose = sheetWith("- a\n- b", "- a\n- b\n- c", "- a\n\n- b");
        Due.same("a loose LIST", loose.tongue.merge() + loose.shown(), "0{D:{L1:{I:{P:a}}{I:{P:b}}{I:{P:c}}}}");
        Sheet lazy = sheetWith("> a\n\nb", "> a\nb", "> *a*\n\nb");
        Due.same("a lazy line", lazy.tongue.merge() + lazy.text(), "1> a\nb");
        Sheet apart = sheetWith("> a\nc\n\nb", "> a\nc\nb", "> *a*\nc\n\nb");
        Due.same("a lazy line", apart.tongue.merge() + apart.shown(), "0{D:{Q:{P:{E:a}\nc\nb}}}");
        Sheet blanks = sheetWith("a \nb", "a\nb", "a \nb\n ");
        Due.same("blanks count", blanks.tongue.merge() + blanks.text(), "0a\nb\n ");
        Due.same("formatted then", blanks.tongue.format() + blanks.shown(), "2{D:{P:a\nb}}");
    }

    /** Nothing has changed where there are conflicts, or where it would be too long. */
    private static void conflictsAndTooLong() {
        String now = "- [x]\n\n[x]: t\n" + "a".repeat(100);
        Sheet sheet = sheetWith("- [x]\n\n[x]: t", now, "- *c*\n\n[x]: t\n" + "b".repeat(100));
        String before = sheet.everything();
        Due.same("a conflict", sheet.tongue.merge(), 1);
        Due.same("nothing has changed", sheet.everything(), before);
        Due.same("format", sheet.tongue.format(), 0);
        Due.same("a conflict still", sheet.tongue.merge(), 1);
        sheet.type("- [x]\n\n" + "c".repeat(125) + "\n\n[x]: t");
        before = sheet.everything();
        Due.same("one too many", sheet.tongue.merge(), Marktongue.FAILED);
        Due.same("nothing has changed", sheet.everything(), before);
        sheet.tongue.take(7, 1);
        Due.same("just enough", sheet.tongue.merge(), 0);
        stands(sheet, "- *c*\n\n" + "c".repeat(124) + "\n\n[x]: t\n" + "b".repeat(100));
        Due.same("full", sheet.tongue.length(), 240);
        Due.raises("one more", IllegalStateException.class, () -> sheet.tongue.put(0, '-'));
        Due.same("load 0", sheet.tongue.load(0), 13);
        Due.same("shown", sheet.shown(), "{D:{L0:{I:{P:{K300:x}}}}}");
    }

    /** One character more at any place, and that or another one less, in a tree that has been asked for. */
    private static void editsOfOneCharacter() {
        String text = "> - *a\nb* `c\n> \n>   [d]: e\n~~~\n\n~~~\n1. [d] \\* [f]\n\n# f";
        for (int place = 0; place <= text.length(); place++) {
            Sheet sheet = new Sheet(text);
            sheet.tongue.growTree();
            for (char sign : "\n >-#~[]*`\\a".toCharArray()) {
                sheet.tongue.put(place, sign);
                String more = text.substring(0, place) + sign + text.substring(place);
                Due.same("put " + sign + " at " + place, sheet.shown() + sheet.owners(), shownAndOwned(more));
                sheet.tongue.take(place, 1);
            }
            if (place < text.length()) {
                sheet.tongue.take(place, 1);
                String less = text.substring(0, place) + text.substring(place + 1);
                Due.same("take at " + place, sheet.shown() + sheet.owners(), shownAndOwned(less));
            }
        }
    }

    private static String shownAndOwned(String text) {
        Sheet fresh = new Sheet(text);
        stands(fresh, text);
        return fresh.shown() + fresh.owners();
    }
}
