/**
 * Runs of calls with any arguments on any texts: no call throws but what the document names,
 * and the answers fit together. The runs are the same each time.
 */
public final class AnyCallsTest {
    private static final String[] PIECES = {"> ", "- ", "+ ", "1. ", "# ", "~~~", "\n", "\n", "\n\n", " ", "   ", "a", "b c", "*", "**",
        "***", "`", "``", "[", "]", "[a]", "[a]: t", "][a]", "\\", "!"};
    private static final int[] ODD = {Integer.MIN_VALUE, -2, -1, 241, Integer.MAX_VALUE};
    private static long state = 1;

    public static void main(String[] args) {
        for (int run = 0; run < 300; run++) {
            anyCalls(run);
        }
        for (int run = 0; run < 1500; run++) {
            fits(anyText());
        }
        Due.finish("AnyCallsTest");
    }

    private static int any(int bound) {
        state = state * 6364136223846793005L + 1442695040888963407L;
        return (int) ((state >>> 33) % bound);
    }

    private static String anyText() {
        StringBuilder text = new StringBuilder();
        int least = 1 + any(240);
        for (int piece = 0; text.length() < least; piece++) {
            text.append(PIECES[any(PIECES.length)]);
        }
        return text.substring(0, Math.min(240, text.length()));
    }

    private static int argument() {
        return any(4) == 0 ? ODD[any(ODD.length)] : any(3) == 0 ? any(4) : any(240);
    }

    private static void anyCalls(int run) {
        Sheet sheet = new Sheet(anyText());
        Tongue tongue = sheet.tongue;
        for (int step = 0; step < 250; step++) {
            int call = any(17);
            int first = argument();
            int second = argument();
            try {
                answer(tongue, call, first, second);
            } catch (IndexOutOfBoundsException | IllegalArgumentException | IllegalStateException thrown) {
                Due.same("run " + run + ", call " + call + " is thrown by", thrown.getStackTrace()[0].getClassName(), "Marktongue");
                Due.same("run " + run + ", call " + call + " is thrown as", named(thrown), true);
            }
        }
        Due.same("run " + run + ", all answers then", sheet.everything(), new Sheet(sheet.text()).everything());
    }

    private static boolean named(RuntimeException thrown) {
        return thrown.getClass() == IndexOutOfBoundsException.class || thrown.getClass() == IllegalArgumentException.class
                || thrown.getClass() == IllegalStateException.class;
    }

    private static int answer(Tongue tongue, int call, int first, int second) {
        switch (call) {
            case 0:
                return tongue.put(first, PIECES[any(PIECES.length)].charAt(0));
            case 1:
                return tongue.put(first, second);
            case 2:
                return tongue.take(first, any(3) == 0 ? second : 1);
            case 3:
                return tongue.length() + tongue.nodes();
            case 4:
                return tongue.character(first);
            case 5:
                return any(20) == 0 ? tongue.clear() : 0;
            case 6:
                return tongue.node(first, second);
            case 7:
                return tongue.node(first, any(4));
            case 8:
                return tongue.child(first, second);
            case 9:
                return tongue.owner(first);
            case 10:
                return tongue.leads(first);
            case 11:
                return tongue.count(first);
            case 12:
                return tongue.print(first);
            case 13:
                return tongue.printed(any(3), first);
            case 14:
                return any(5) == 0 ? tongue.format() : tongue.merge();
            case 15:
                return tongue.keep(first);
            default:
                return tongue.load(first);
        }
    }

    /** What nodes, node, child, count, leads and printed tell of one tree is the same tree. */
    private static void fits(String text) {
        Sheet sheet = new Sheet(text);
        Tongue tongue = sheet.tongue;
        int[] counts = new int[13];
        for (int node = 0; node < tongue.nodes(); node++) {
            int kind = tongue.node(node, 0);
            counts[kind]++;
            Due.same("parent ahead of " + node + " in " + text, tongue.node(node, 1) < node, true);
            for (int place = 0; place < tongue.node(node, 2); place++) {
                int child = tongue.child(node, place);
                Due.same("parent of " + child + " in " + text, tongue.node(child, 1), node);
                Due.same("list and items in " + text, tongue.node(child, 0) == Marktongue.ITEM, kind == Marktongue.LIST);
            }
            if (kind == Marktongue.LINK) {
                int led = tongue.node(tongue.leads(node), 0);
                Due.same("led to in " + text, led == Marktongue.DEFINITION || led == Marktongue.HEADING, true);
            }
        }
        for (int kind = 0; kind < counts.length; kind++) {
            Due.same("count " + kind + " of " + text, tongue.count(kind), counts[kind]);
        }
        for (int place = 0; place < text.length(); place++) {
            int owner = tongue.owner(place);
            Due.same("owner " + place + " in " + text, tongue.node(owner, 0) <= Marktongue.DEFINITION, true);
        }
        String shown = sheet.shown();
        tongue.format();
        Due.same("formatted tree of " + text, sheet.shown(), shown);
        Due.same("at rest " + text, tongue.format(), 0);
    }
}
