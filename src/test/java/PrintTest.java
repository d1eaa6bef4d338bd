/** Promises 13 to 15: print, printed, format. */
public final class PrintTest {
    private static final Class<IndexOutOfBoundsException> PLACE = IndexOutOfBoundsException.class;
    private static final Class<IllegalArgumentException> ARGUMENT = IllegalArgumentException.class;

    public static void main(String[] args) {
        numbers();
        plain();
        wrongCalls();
        blanks();
        blankLines();
        fencedLines();
        atRest();
        Due.finish("PrintTest");
    }

    private static String numbersOf(String text, int target) {
        return new Sheet(text).numbers(target);
    }

    private static void numbers() {
        Due.same("14 heading", numbersOf("## a", 0), "1000 1004 102 97 2004 2000");
        Due.same("14 list", numbersOf("- a\n\n- `b`", 0),
                "1000 1002 1 1003 1006 97 2006 2003 1003 1006 1011 98 2011 2006 2003 2002 2000");
        Due.same("14 tight list", numbersOf("-", 0), "1000 1002 0 1003 2003 2002 2000");
        Due.same("14 link", numbersOf("[x]: t\n> [y][x]", 0), "1000 1001 1006 1012 300 121 2012 2006 2001 2000");
        Due.same("14 link to a heading", numbersOf("#\n# y\n[y]", 0),
                "1000 1004 101 2004 1004 101 121 2004 1006 1012 401 121 2012 2006 2000");
        Due.same("14 fence", numbersOf("~~~\na\n\n~~~", 0), "1000 1005 97 10 10 2005 2000");
        Due.same("14 marks", numbersOf("*a***b**", 0), "1000 1006 1009 97 2009 1010 98 2010 2006 2000");
        Due.same("13 how many", new Sheet("## a").tongue.print(0), 6);
    }

    private static void plain() {
        Due.same("14 plain", new Sheet("# a\n*b*\nc\n\n- `d` [e]\n> ~~~\n> f\n>\n> ~~~\n\n[e]: t").plain(), "a\nb\nc\nd e\nf\n\n");
        Due.same("13 plain", new Sheet("# a\n*b*").tongue.print(1), 4);
        Due.same("13 empty heading", new Sheet("#").tongue.print(1), 1);
        Due.same("13 nothing", new Sheet("> [a]: t").tongue.print(1), 0);
    }

    private static void wrongCalls() {
        Sheet sheet = new Sheet("a");
        for (int target : new int[] {-1, 2, Integer.MAX_VALUE, Integer.MIN_VALUE}) {
            Due.raises("13 target " + target, ARGUMENT, () -> sheet.tongue.print(target));
            Due.raises("14 target " + target, ARGUMENT, () -> sheet.tongue.printed(target, 0));
            Due.raises("14 target ahead of place " + target, ARGUMENT, () -> sheet.tongue.printed(target, -1));
        }
        for (int place : new int[] {-1, 5, Integer.MAX_VALUE, Integer.MIN_VALUE}) {
            Due.raises("14 place " + place, PLACE, () -> sheet.tongue.printed(0, place));
        }
        Due.raises("14 place of target 1", PLACE, () -> sheet.tongue.printed(1, 2));
        Due.same("14 last", sheet.tongue.printed(0, 4) + sheet.tongue.printed(1, 1), 2010);
    }

    private static void formatted(String text, String want) {
        Sheet sheet = new Sheet(text);
        String name = "15 " + text.replace("\n", "/");
        Due.same(name, sheet.tongue.format(), text.length() - want.length());
        Due.same(name + " text", sheet.text(), want);
        Due.same(name + " again", sheet.tongue.format(), 0);
    }

    private static void blanks() {
        formatted("a  \n  b ", "a\n  b");
        formatted("> \n- \n#  \n  - ", ">\n-\n#\n  -");
        formatted("", "");
        formatted("    ", "");
        formatted("a\nb", "a\nb");
    }

    private static void blankLines() {
        formatted("\n \n\na", "a");
        formatted("a\n\n", "a");
        formatted("a\n", "a");
        formatted("a\n  ", "a");
        formatted("a\n\nb", "a\n\nb");
        formatted("a\n  \n\n \nb\n\n\nc\n \n", "a\n\nb\n\nc");
        formatted("\n\n", "");
        formatted("> a\n>\n>\n> b", "> a\n>\n>\n> b");
    }

    private static void fencedLines() {
        formatted("~~~ \na  \n \n\n~~~  \nb  ", "~~~ \na  \n \n\n~~~  \nb");
        formatted("\n\n~~~\n\n \n", "~~~\n\n \n");
        formatted("~~~\n~~~\n\n\n~~~ \n ", "~~~\n~~~\n\n~~~ \n ");
        formatted("> ~~~ \n> a \n\n\n", "> ~~~ \n> a ");
        formatted("- ~~~ \n\n \n  a \nb ", "- ~~~ \n\n \n  a \nb");
        formatted("a\n\n\n~~~", "a\n\n~~~");
        formatted(" ~~~ \na ", " ~~~\na");
    }

    private static void atRest() {
        Sheet sheet = new Sheet("> a  \n\n\n- b");
        String before = sheet.shown();
        sheet.tongue.format();
        Due.same("15 the tree stays", sheet.shown(), before);
    }
}
