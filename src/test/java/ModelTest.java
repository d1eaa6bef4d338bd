import java.util.ArrayList;
import java.util.List;

/**
 * Every call against a second reading of the document (Model, Reading, BlockReading, InlineReading, Part):
 * all short texts of some pieces, any long ones, any merges, and any runs of calls. They are the same each time.
 */
public final class ModelTest {
    private static final String[] CALLS = {"put", "put", "put", "take", "length", "character", "clear", "nodes", "node", "node", "child",
            "owner", "leads", "count", "print", "printed", "printed", "format", "keep", "load", "merge"};
    private static final String[] PIECES = {"> ", "- ", "+ ", "1. ", "# ", "~~~", "\n", "\n", "\n\n", " ", "   ", "a", "b c", "*", "**",
            "***", "`", "``", "[", "]", "[a]", "[a]: t", "][a]", "\\", "!", "\n  ", "\n> "};
    private static final int[] ODD = {Integer.MIN_VALUE, -2, -1, 9, 13, 31, 127, 240, 241, Integer.MAX_VALUE};
    private static long state = 7;

    public static void main(String[] args) {
        shortTexts(6, "", ">", "-", " ", "\n", "a");
        shortTexts(5, "", "- ", "1.", "  ", "\n", "a", "# ", "~~~");
        shortTexts(5, "", "> ", "- ", "\n", "\n\n", "~~~", "  ", "[a]: t");
        shortTexts(7, "", "*", "a", "!", " ");
        shortTexts(5, "\n\n[a]: t", "[", "]", "*", "a", "`", "\\");
        shortTexts(5, "\n# a", "[a]", "[", "]", "**", "`");
        for (int run = 0; run < 1500; run++) {
            String text = anyText(PIECES, 240);
            looksTheSame(new Sheet(text), text);
        }
        for (int run = 0; run < 4000; run++) {
            anyMerge("merge " + run);
        }
        for (int run = 0; run < 600; run++) {
            anyCalls("run " + run);
        }
        Due.finish("ModelTest");
    }

    private static int any(int bound) {
        state = state * 6364136223846793005L + 1442695040888963407L;
        return (int) ((state >>> 33) % bound);
    }

    private static String anyText(String[] pieces, int most) {
        StringBuilder text = new StringBuilder();
        int least = any(most + 1);
        while (text.length() < least) {
            text.append(pieces[any(pieces.length)]);
        }
        return text.substring(0, Math.min(most, text.length()));
    }

    /** All texts of at most so many of the pieces, each with the same end. */
    private static void shortTexts(int most, String end, String... pieces) {
        int many = 1;
        for (int size = 0; size <= most; size++) {
            for (int code = 0; code < many; code++) {
                StringBuilder text = new StringBuilder();
                int left = code;
                for (int piece = 0; piece < size; piece++) {
                    text.append(pieces[left % pieces.length]);
                    left /= pieces.length;
                }
                looksTheSame(new Sheet(text + end), text + end);
            }
            many *= pieces.length;
        }
    }

    private static void looksTheSame(Sheet sheet, String text) {
        Reading reading = new Reading(text);
        Due.same("all of " + text, sheet.everything(), reading.everything());
        String formatted = reading.formatted();
        Due.same("format of " + text, sheet.tongue.format(), text.length() - formatted.length());
        Due.same("formatted " + text, sheet.text(), formatted);
    }

    /** Texts of lines that are often the same, some of them left out, put in or changed. */
    private static void anyMerge(String name) {
        String[] lines = any(3) == 0 ? new String[] {"a\n", "b\n"} : new String[] {"a\n", "b\n", "c\n", " a\n", "\n", "d".repeat(40) + "\n"};
        String base = anyText(lines, 1 + any(120));
        String other = any(8) == 0 ? anyText(lines, 120) : edited(base, lines);
        String now = any(8) == 0 ? anyText(lines, 120) : edited(base, lines);
        Sheet sheet = new Sheet(base);
        sheet.tongue.keep(0);
        sheet.type(other);
        sheet.tongue.keep(1);
        sheet.type(now);
        Model model = new Model(now, base, other);
        String told = name + " of " + base + "|" + now + "|" + other;
        Due.same(told, "" + sheet.tongue.merge(), model.answer("merge", 0, 0));
        Due.same(told, sheet.everything(), model.reading().everything());
    }

    private static String edited(String base, String[] lines) {
        StringBuilder text = new StringBuilder();
        int odds = 2 + any(12);
        for (String line : base.split("\n", -1)) {
            int change = any(odds * 3);
            text.append(change == 0 ? lines[any(lines.length)] : "");
            text.append(change == 1 ? "" : change == 2 ? lines[any(lines.length)] : line + "\n");
        }
        return text.substring(0, Math.min(240, Math.max(0, text.length() - 1)));
    }

    /** As many calls of one object as the document promises. */
    private static void anyCalls(String name) {
        Marktongue object = new Marktongue();
        Model model = new Model("", "", "");
        String text = anyText(PIECES, 20 + any(221));
        List<String> past = new ArrayList<>();
        for (int step = 0; step < 512; step++) {
            boolean isTyped = step < text.length();
            String call = isTyped ? "put" : CALLS[any(any(8) == 0 ? CALLS.length : CALLS.length - 5)];
            int first = isTyped ? step : argument(model.text().length());
            int second = isTyped ? text.charAt(step) : call.equals("put") ? character() : argument(any(3) == 0 ? 40 : 4);
            String due = model.answer(call, first, second);
            past.add(call + "(" + first + ", " + second + ")");
            String got = answer(object, call, first, second);
            if (!got.equals(due)) {
                Due.same(name + ": " + past, got, due);
            }
        }
    }

    private static int argument(int end) {
        if (any(12) == 0) {
            return ODD[any(ODD.length)];
        }
        return any(any(2) == 0 ? 3 : end + 1);
    }

    private static int character() {
        return any(12) == 0 ? argument(200) : PIECES[any(PIECES.length)].charAt(0);
    }

    private static String answer(Marktongue object, String call, int first, int second) {
        try {
            return "" + answered(object, call, first, second);
        } catch (RuntimeException thrown) {
            return thrown.getClass().getSimpleName();
        }
    }

    private static int answered(Marktongue object, String call, int first, int second) {
        switch (call) {
            case "put":
                return object.put(first, second);
            case "take":
                return object.take(first, second);
            case "length":
                return object.length();
            case "character":
                return object.character(first);
            case "clear":
                return object.clear();
            case "nodes":
                return object.nodes();
            case "node":
                return object.node(first, second);
            case "child":
                return object.child(first, second);
            case "owner":
                return object.owner(first);
            case "leads":
                return object.leads(first);
            case "count":
                return object.count(first);
            case "print":
                return object.print(first);
            case "printed":
                return object.printed(first, second);
            case "format":
                return object.format();
            case "keep":
                return object.keep(first);
            case "load":
                return object.load(first);
            default:
                return object.merge();
        }
    }
}
