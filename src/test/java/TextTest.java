/** Promises 1 to 6: a new object, put, take, length, character, clear. */
public final class TextTest {
    private static final Class<IndexOutOfBoundsException> PLACE = IndexOutOfBoundsException.class;
    private static final Class<IllegalArgumentException> ARGUMENT = IllegalArgumentException.class;
    private static final Class<IllegalStateException> STATE = IllegalStateException.class;

    public static void main(String[] args) {
        newObject();
        put();
        fullText();
        take();
        character();
        clear();
        treeFollowsEdits();
        Due.finish("TextTest");
    }

    private static void newObject() {
        Tongue tongue = new Tongue();
        Due.same("1 length", tongue.length(), 0);
        Due.same("1 nodes", tongue.nodes(), 1);
        Due.same("1 print 0", tongue.print(0), 2);
        Due.same("1 print 1", tongue.print(1), 0);
        Due.same("1 merge", tongue.merge(), 0);
        Due.same("1 keep 0", tongue.keep(0), 0);
        Due.same("1 load 1", tongue.load(1), 0);
    }

    private static void put() {
        Sheet sheet = new Sheet("ac");
        Due.same("2 between", sheet.tongue.put(1, 'b'), 3);
        Due.same("2 at the end", sheet.tongue.put(3, '~'), 4);
        Due.same("2 at the beginning", sheet.tongue.put(0, '\n'), 5);
        Due.same("2 a blank", sheet.tongue.put(2, ' '), 6);
        Due.same("2 text", sheet.text(), "\na bc~");
        for (int place : new int[] {-1, 7, Integer.MAX_VALUE, Integer.MIN_VALUE}) {
            Due.raises("2 place " + place, PLACE, () -> sheet.tongue.put(place, 'a'));
            Due.raises("2 place ahead of character " + place, PLACE, () -> sheet.tongue.put(place, 1));
        }
        for (int character : new int[] {-1, 0, 9, 11, 31, 127, Integer.MAX_VALUE, Integer.MIN_VALUE}) {
            Due.raises("2 character " + character, ARGUMENT, () -> sheet.tongue.put(0, character));
        }
        Due.same("2 nothing changed", sheet.text(), "\na bc~");
    }

    private static void fullText() {
        Sheet sheet = new Sheet("x".repeat(239));
        Due.same("2 the last one", sheet.tongue.put(100, 'y'), 240);
        Due.raises("2 full", STATE, () -> sheet.tongue.put(240, 'a'));
        Due.raises("2 full, place first", PLACE, () -> sheet.tongue.put(241, 'a'));
        Due.raises("2 full, character first", ARGUMENT, () -> sheet.tongue.put(0, 31));
        Due.same("2 full text", sheet.text(), "x".repeat(100) + "y" + "x".repeat(139));
        Due.same("2 room again", sheet.tongue.take(0, 1) + sheet.tongue.put(239, 'z'), 479);
    }

    private static void take() {
        Sheet sheet = new Sheet("abcdef");
        Due.same("3 between", sheet.tongue.take(1, 2), 4);
        Due.same("3 text", sheet.text(), "adef");
        Due.same("3 at the end", sheet.tongue.take(3, 1), 3);
        Due.same("3 at the beginning", sheet.tongue.take(0, 1), 2);
        Due.same("3 what is left", sheet.text(), "de");
        for (int place : new int[] {-1, 2, 3, Integer.MAX_VALUE, Integer.MIN_VALUE}) {
            Due.raises("3 place " + place, PLACE, () -> sheet.tongue.take(place, 1));
            Due.raises("3 place ahead of many " + place, PLACE, () -> sheet.tongue.take(place, 0));
        }
        for (int many : new int[] {0, -1, 2, Integer.MAX_VALUE, Integer.MIN_VALUE}) {
            Due.raises("3 many " + many, ARGUMENT, () -> sheet.tongue.take(1, many));
        }
        Due.same("3 nothing changed", sheet.text(), "de");
        Due.same("3 all", sheet.tongue.take(0, 2), 0);
        Due.raises("3 of the empty text", PLACE, () -> sheet.tongue.take(0, 1));
    }

    private static void character() {
        Sheet sheet = new Sheet("a\n~");
        Due.same("4 length", sheet.tongue.length(), 3);
        Due.same("5 first", sheet.tongue.character(0), 97);
        Due.same("5 line end", sheet.tongue.character(1), 10);
        Due.same("5 last", sheet.tongue.character(2), 126);
        for (int place : new int[] {-1, 3, Integer.MAX_VALUE, Integer.MIN_VALUE}) {
            Due.raises("5 place " + place, PLACE, () -> sheet.tongue.character(place));
        }
    }

    private static void clear() {
        Sheet sheet = new Sheet("abc");
        sheet.tongue.keep(1);
        Due.same("6 nodes ahead", sheet.tongue.nodes(), 3);
        Due.same("6 answer", sheet.tongue.clear(), 3);
        Due.same("6 length", sheet.tongue.length(), 0);
        Due.same("6 nodes", sheet.tongue.nodes(), 1);
        Due.same("6 again", sheet.tongue.clear(), 0);
        Due.same("6 slots stay", sheet.tongue.load(1), 3);
    }

    private static void treeFollowsEdits() {
        Sheet sheet = new Sheet("#a");
        Due.same("no heading yet", sheet.kinds(), "DPT");
        sheet.tongue.put(1, ' ');
        Due.same("put makes it one", sheet.kinds(), "DHT");
        sheet.tongue.take(0, 2);
        Due.same("take makes it none", sheet.kinds(), "DPT");
    }
}
