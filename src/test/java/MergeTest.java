/** Promises 16 to 18: keep, load, merge. */
public final class MergeTest {
    private static final Class<IllegalArgumentException> ARGUMENT = IllegalArgumentException.class;

    public static void main(String[] args) {
        slots();
        clean();
        conflicts();
        ties();
        longTexts();
        Due.finish("MergeTest");
    }

    private static void slots() {
        Sheet sheet = new Sheet("abc");
        Due.same("16 first", sheet.tongue.keep(0), 0);
        sheet.type("# d");
        Due.same("16 other slot", sheet.tongue.keep(1), 0);
        sheet.tongue.put(3, 'e');
        Due.same("16 in place of", sheet.tongue.keep(1), 3);
        Due.same("17 load 0", sheet.tongue.load(0), 3);
        Due.same("17 text", sheet.text() + sheet.kinds(), "abcDPT");
        Due.same("17 load 1", sheet.tongue.load(1), 4);
        Due.same("17 other text", sheet.text() + sheet.kinds(), "# deDHT");
        sheet.tongue.clear();
        Due.same("17 slots are copies", sheet.tongue.load(1), 4);
        for (int slot : new int[] {-1, 2, Integer.MAX_VALUE, Integer.MIN_VALUE}) {
            Due.raises("16 slot " + slot, ARGUMENT, () -> sheet.tongue.keep(slot));
            Due.raises("17 slot " + slot, ARGUMENT, () -> sheet.tongue.load(slot));
        }
        Due.same("17 nothing changed", sheet.text(), "# de");
    }

    private static void merged(String base, String now, String other, int want, String text) {
        Sheet sheet = new Sheet(base);
        sheet.tongue.keep(0);
        sheet.type(other);
        sheet.tongue.keep(1);
        sheet.type(now);
        String name = "18 " + (base + "|" + now + "|" + other).replace("\n", "/");
        Due.same(name, sheet.tongue.merge(), want);
        Due.same(name + " text", sheet.text(), text);
        Due.same(name + " tree", sheet.shown(), Sheet.shownOf(text));
        Due.same(name + " slots", sheet.tongue.load(0) + " " + sheet.tongue.load(1), base.length() + " " + other.length());
    }

    private static void clean() {
        merged("a", "a", "a", 0, "a");
        merged("", "", "# x", 0, "# x");
        merged("a\nb\nc", "A\nb\nc", "a\nb\nC", 0, "A\nb\nC");
        merged("a\nb\nc", "a\nb\nc", "x\ny", 0, "x\ny");
        merged("a\nb\nc", "x\ny", "a\nb\nc", 0, "x\ny");
        merged("a\nb", "x\ny", "x\ny", 0, "x\ny");
        merged("a\nb\nc", "b\nc", "a\nb", 0, "b");
        merged("a\nb", "a\nn\nb", "a\nb\no", 0, "a\nn\nb\no");
        merged("a\nb", "m\na\nb", "a\nb\n", 0, "m\na\nb\n");
        merged("a\n\nb", "a\n\nb\n\nc", "z\n\nb", 0, "z\n\nb\n\nc");
    }

    private static void conflicts() {
        merged("a", "b", "c", 1, "b");
        merged("a\nb\nc", "x\nb\ny", "m\nb\nn", 2, "x\nb\ny");
        merged("a\nb\nc", "x\nb\ny", "m\nb\nc", 1, "x\nb\ny");
        merged("a\nb", "a\nx\nb", "a\ny\nb", 1, "a\nx\nb");
        merged("a\nb", "A\nb", "a\nB", 1, "A\nb");
        merged("", "a", "b", 1, "a");
        merged("a", "", "b", 1, "");
    }

    /** Where several ways take as many lines together, the next one of slot 0 is left out. */
    private static void ties() {
        merged("a\nb", "b", "b\na", 0, "b\na");
        merged("a\nb", "b\na", "b", 0, "b\na");
        merged("a\nb", "a", "b\na", 1, "a");
        merged("a\na", "a", "b\na", 1, "a");
        merged("a\na", "b\na", "a", 1, "b\na");
    }

    private static void longTexts() {
        String long1 = "x".repeat(119);
        merged("a", long1 + "\na", "a\n" + "y".repeat(118), 0, long1 + "\na\n" + "y".repeat(118));
        merged("a", long1 + "\na", "a\n" + "y".repeat(119), Marktongue.FAILED, long1 + "\na");
        merged("a\nb", "c\n" + long1 + "\na\nb", "d\na\nb\n" + long1 + long1.substring(6), 1, "c\n" + long1 + "\na\nb");
        String lines = "\n".repeat(240);
        merged(lines, lines, lines, 0, lines);
        merged(lines, "", lines, 0, "");
        merged("", lines, "", 0, lines);
        merged(lines, lines, "a", 0, "a");
    }
}
