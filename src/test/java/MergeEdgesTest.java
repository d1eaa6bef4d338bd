import java.util.ArrayList;
import java.util.Arrays;
import java.util.List;

/** Promises 16 to 18 and "Merges", sentence by sentence, and merges of many texts against a second, plain reading of them. */
public final class MergeEdgesTest {
    private static final String A = "alpha";
    private static final String B = "alpine";
    private static long state = 7;

    public static void main(String[] args) {
        keep();
        load();
        emptySlots();
        takenTogether();
        leftOutOfBase();
        nowAsBase();
        otherAsBase();
        bothTheSame();
        conflicts();
        conflictPlaces();
        lines();
        lengths();
        manyLines();
        manyLinesLeftOut();
        slotsAndTextStay();
        anyMerges();
        Due.finish("MergeEdgesTest");
    }

    private static Sheet three(String base, String now, String other) {
        Sheet sheet = new Sheet(base);
        sheet.tongue.keep(0);
        sheet.type(other);
        sheet.tongue.keep(1);
        sheet.type(now);
        return sheet;
    }

    private static void merged(String base, String now, String other, int want, String text) {
        Sheet sheet = three(base, now, other);
        String name = (base + "|" + now + "|" + other).replace("\n", "/");
        Due.same(name, sheet.tongue.merge(), want);
        Due.same(name + " text", sheet.text(), text);
        Due.same(name + " length", sheet.tongue.length(), text.length());
        Due.same(name + " slots", sheet.kept(0) + "|" + sheet.kept(1), base.length() + " " + base + "|" + other.length() + " " + other);
    }

    private static void clean(String base, String now, String other, String text) {
        merged(base, now, other, 0, text);
    }

    private static void conflict(String base, String now, String other, int want) {
        merged(base, now, other, want, now);
    }

    /** "Keeps the text in a slot, in place of what is there." "Returns the length of what was there." */
    private static void keep() {
        Sheet sheet = new Sheet("");
        Due.same("nothing on nothing", sheet.tongue.keep(0), 0);
        sheet.type("a");
        Due.same("one on nothing", sheet.tongue.keep(0), 0);
        Due.same("one on one", sheet.tongue.keep(0), 1);
        sheet.type("a".repeat(240));
        Due.same("all on one", sheet.tongue.keep(0), 1);
        Due.same("all on nothing", sheet.tongue.keep(1), 0);
        Due.same("all on all", sheet.tongue.keep(0), 240);
        sheet.tongue.clear();
        Due.same("nothing on all", sheet.tongue.keep(0), 240);
        Due.same("nothing again", sheet.tongue.keep(0), 0);
        Due.same("the other slot stays", sheet.tongue.keep(1), 240);
        Due.same("the text stays", sheet.tongue.length(), 0);
    }

    /** "Makes what is kept in a slot the text." "Returns its length." */
    private static void load() {
        Sheet sheet = new Sheet("a\nb");
        sheet.tongue.keep(1);
        Due.same("an empty slot", sheet.tongue.load(0), 0);
        Due.same("the empty text", sheet.text(), "");
        Due.same("the other slot", sheet.tongue.load(1), 3);
        Due.same("its text", sheet.text(), "a\nb");
        sheet.tongue.put(3, 'c');
        sheet.tongue.format();
        Due.same("it stays as it was kept", sheet.tongue.load(1), 3);
        Due.same("again", sheet.tongue.load(1), 3);
        sheet.type("a".repeat(240));
        sheet.tongue.keep(0);
        sheet.tongue.clear();
        Due.same("a full text", sheet.tongue.load(0), 240);
    }

    /** Promise 1: "empty slots": a merge takes them as the empty text. */
    private static void emptySlots() {
        Sheet sheet = new Sheet("");
        Due.same("all empty", sheet.merged(), "0 ");
        sheet.type("a\nb");
        Due.same("both empty", sheet.merged(), "0 a\nb");
        sheet.tongue.keep(0);
        Due.same("slot 1 empty", sheet.merged(), "0 ");
        sheet.tongue.clear();
        Due.same("slot 1 and the text empty", sheet.merged(), "0 ");
        Sheet other = new Sheet("a");
        other.tongue.keep(1);
        Due.same("slot 0 empty, both the same", other.merged(), "0 a");
        other.type("b");
        Due.same("slot 0 empty", other.merged(), "1 b");
    }

    /** "Lines of the one and of slot 0 are taken together, as many as can be" */
    private static void takenTogether() {
        clean("a\nb\nc", "a\nx\nc", "a\nb\nc\nd", "a\nx\nc\nd");
        clean("a\nb\nc", "b\nc\na", "a\nb\nx\nc", "b\nx\nc\na");
        conflict("a\nb\nc\nd", "b\nc\nd\na", "a\nb\nc\nD", 1);
        clean("a\nb\na\nc", "a\nc", "a\nb\na\nc\nz", "a\nc\nz");
        clean(A + "\n" + B, B, A + "\n" + B + "\nz", B + "\nz");
        conflict(A, B, A + "s", 1);
    }

    /** "otherwise the next one of slot 0 is left out, if as many can be taken together then, or else the next one of the other text" */
    private static void leftOutOfBase() {
        clean("a\nb", "b\na", "b", "b\na");
        clean("a\nb", "b", "b\na", "b\na");
        conflict("a\nb", "a", "b\na", 1);
        conflict("a\nb", "b\na", "a", 1);
        conflict("a\nb\nc", "c\na\nb", "a\nb\nc\nd", 1);
        conflict("a\na", "b\na", "a", 1);
    }

    /** "if the lines of now are the same as those of slot 0, those of slot 1 are taken" */
    private static void nowAsBase() {
        clean("a", "a", "b", "b");
        clean("a", "a", "", "");
        clean("", "", "a\nb", "a\nb");
        clean("a\nb\nc", "a\nb\nc", "x\nb", "x\nb");
        clean("a\nb\nc", "a\nb\nc", "", "");
        clean("a\nc", "a\nc", "a\nb\nc", "a\nb\nc");
        clean("a\nb\nc", "a\nb\nc", "a\nc", "a\nc");
    }

    /** "otherwise, if those of slot 1 are the same as those of slot 0 ... those of now" */
    private static void otherAsBase() {
        clean("a", "b", "a", "b");
        clean("a", "", "a", "");
        clean("", "a\nb", "", "a\nb");
        clean("a\nb\nc", "x\nb", "a\nb\nc", "x\nb");
        clean("a\nc", "a\nb\nc", "a\nc", "a\nb\nc");
        clean("a\nb\nc", "a\nc", "a\nb\nc", "a\nc");
    }

    /** "or as those of now, those of now" */
    private static void bothTheSame() {
        clean("a", "b", "b", "b");
        clean("a\nb", "", "", "");
        clean("a\nc", "a\nb\nc", "a\nb\nc", "a\nb\nc");
        clean("a\nb\nc", "a\nc", "a\nc", "a\nc");
        clean("a\nb", "x\ny\nb\nm", "x\ny\nb\nm", "x\ny\nb\nm");
    }

    /** "otherwise it is a conflict": how many there are, and nothing has changed. */
    private static void conflicts() {
        conflict("a", "b", "c", 1);
        conflict("a", "", "c", 1);
        conflict("", "a", "b", 1);
        conflict("a\nf\nb", "x\nf\ny", "m\nf\nn", 2);
        conflict("a\nf\nb\ng\nc", "1\nf\n2\ng\n3", "4\nf\n5\ng\n6", 3);
        conflict("a\nf\nb\ng\nc", "1\nf\n2\ng\n3", "4\nf\nb\ng\n6", 2);
        conflict("a\nf\nb\ng\nc", "1\nf\n2\ng\n3", "1\nf\n2\ng\n6", 1);
        conflict("a\nb", "a\nx\nb", "a\ny\nb", 1);
        conflict("a\nb", "a\nx\nb", "a\nx\ny\nb", 1);
        String odd = "f\n".repeat(40);
        conflict(odd, odd.replace("f", "f\n1"), odd.replace("f", "f\n2"), 40);
    }

    /** "Between these, ahead of the first and behind the last one" */
    private static void conflictPlaces() {
        conflict("f", "a\nf", "b\nf", 1);
        conflict("f", "f\na", "f\nb", 1);
        conflict("f", "a\nf\na", "b\nf\nb", 2);
        clean("f", "a\nf", "f\nb", "a\nf\nb");
        clean("f\ng", "f\na\ng", "b\nf\ng\nc", "b\nf\na\ng\nc");
        clean("a\nf\nb", "x\nf\nb", "a\nf\ny", "x\nf\ny");
        conflict("a\nb", "x\nb", "a\ny", 1);
    }

    /** Lines are the same if all of their characters are; an empty last line is one, too. */
    private static void lines() {
        conflict(A, A + "s", A + "t", 1);
        clean(A, A + "s", A, A + "s");
        clean("abc\nabd\nz\nabe", "abc\nabx\nz\nabe", "abc\nabd\nz\naby", "abc\nabx\nz\naby");
        conflict("abc\nabd\nabe", "abc\nabx\nabe", "abc\nabd\naby", 1);
        clean("ab\ncb", "ab\ncb\ndb", "ab\neb\ncb", "ab\neb\ncb\ndb");
        conflict("aab\naac", "aab\naad", "aab\naac\naae", 1);
        clean("a", "a\n", "a", "a\n");
        clean("a\n", "a", "a\n", "a");
        clean("a\n", "b\n", "a\n\n", "b\n\n");
        clean(" a", " a", "a", "a");
        conflict("a", "a ", " a", 1);
    }

    /** "if that has at most 240 characters"; "FAILED, if it would be too long" */
    private static void lengths() {
        String ahead = "x".repeat(119);
        clean("a", ahead + "\na", "a\n" + "y".repeat(118), ahead + "\na\n" + "y".repeat(118));
        merged("a", ahead + "\na", "a\n" + "y".repeat(119), Marktongue.FAILED, ahead + "\na");
        clean("a", "a\n" + ahead, "y".repeat(118) + "\na", "y".repeat(118) + "\na\n" + ahead);
        merged("a", "a\n" + ahead, "y".repeat(119) + "\na", Marktongue.FAILED, "a\n" + ahead);
        String long1 = ahead.substring(1);
        String nowLong = "c\nf\n" + long1 + "\ng";
        merged("a\nf\ng", nowLong, "d\nf\ng\n" + long1, 1, nowLong);
        clean("", "", "z".repeat(240), "z".repeat(240));
        clean("", "z".repeat(240), "", "z".repeat(240));
        clean("a", "a\n" + "z".repeat(238), "a", "a\n" + "z".repeat(238));
        merged("a", "a\n" + "z".repeat(237), "\na", 0, "\na\n" + "z".repeat(237));
        merged("a", "a\n" + "z".repeat(238), "\na", Marktongue.FAILED, "a\n" + "z".repeat(238));
        merged("a\n", "a\n" + "z".repeat(238), "b\na\n", Marktongue.FAILED, "a\n" + "z".repeat(238));
    }

    private static void manyLines() {
        String ends = "\n".repeat(240);
        clean(ends, ends, ends, ends);
        clean(ends, "", ends, "");
        clean("", ends, "", ends);
        clean(ends, ends, "a", "a");
        clean("", "", ends, ends);
        String far = "b" + "\n".repeat(220) + "c";
        clean("b\nc", "b\nc\nd", far, far + "\nd");
        clean("b\nc", far, "b\nc\nd", far + "\nd");
        clean(far, far + "\nd", "a\n" + far, "a\n" + far + "\nd");
        String middle = "r\nq" + "\n".repeat(62) + "m" + "\n".repeat(7) + "p";
        clean("m\np\nr\nq", "m\np\nz\nr\nq", middle + "\nr", middle + "\nz\nr");
        clean("a\n".repeat(80), "a\n".repeat(79) + "b\na\n", "c\n" + "a\n".repeat(80), "c\n" + "a\n".repeat(79) + "b\na\n");
    }

    /** Lines of both texts that are left out, more than one text can have, ahead of one that is taken. */
    private static void manyLinesLeftOut() {
        String base = "\n".repeat(200) + "z";
        String other = "a\n".repeat(100) + "z";
        Sheet sheet = new Sheet(base);
        sheet.tongue.keep(0);
        sheet.type(other);
        sheet.tongue.keep(1);
        sheet.tongue.load(0);
        sheet.type(base + "\nq");
        Due.same("many lines left out", sheet.tongue.merge() + " " + sheet.text(), "0 " + other + "\nq");
    }

    /** "nothing has changed, if there are some": the tree and the prints neither. */
    private static void slotsAndTextStay() {
        Sheet sheet = three("# a\n\n*b*", "# x\n\n*b*", "# y\n\n*b*");
        String before = sheet.everything();
        Due.same("conflict", sheet.tongue.merge(), 1);
        Due.same("all behind a conflict", sheet.everything(), before);
        Sheet other = three("a", "# " + "x".repeat(119) + "\na", "a\n# " + "y".repeat(118));
        before = other.everything();
        Due.same("too long", other.tongue.merge(), Marktongue.FAILED);
        Due.same("all behind what is too long", other.everything(), before);
        Sheet clean = three("a\n\nb", "# a\n\nb", "a\n\n*b*");
        Due.same("clean", clean.tongue.merge(), 0);
        Due.same("its tree", clean.shown(), "{D:{H101:a}{P:{E:b}}}");
        Due.same("merged again", clean.tongue.merge(), 0);
        Due.same("as before", clean.text(), "# a\n\n*b*");
    }

    private static int any(int bound) {
        state = state * 6364136223846793005L + 1442695040888963407L;
        return (int) ((state >>> 33) % bound);
    }

    private static String anyLine() {
        return new String[] {"", "a", "b", "ab", "ac", "c"}[any(6)];
    }

    private static String anyLines(int most) {
        StringBuilder text = new StringBuilder(anyLine());
        int many = any(most);
        for (int line = 1; line < many; line++) {
            text.append("\n").append(anyLine());
        }
        return text.toString();
    }

    /** More lines than a word has bits, and few enough characters to type them three times. */
    private static String manyShortLines() {
        StringBuilder text = new StringBuilder();
        while (text.length() < 190) {
            text.append(any(3) == 0 ? "a" : "").append(any(5) == 0 ? "b\n" : "\n");
        }
        return text.toString();
    }

    /** Changes of some lines that are close together. */
    private static String edited(String text, int changes) {
        List<String> lines = new ArrayList<>(linesOf(text));
        int first = any(lines.size());
        for (int change = 0; change < changes; change++) {
            int place = Math.min(lines.size() - 1, first + any(9));
            int kind = any(3);
            if (kind == 0 && lines.size() > 1) {
                lines.remove(place);
            } else if (kind == 1) {
                lines.add(place, anyLine());
            } else {
                lines.set(place, anyLine());
            }
        }
        return String.join("\n", lines);
    }

    /** Short texts with many ties, and long ones, whose tables are large. */
    private static void anyMerges() {
        for (int run = 0; run < 6000; run++) {
            boolean isLong = run % 8 == 0;
            boolean isEdited = isLong || any(4) > 0;
            String base = isLong ? manyShortLines() : anyLines(8);
            String now = isEdited ? edited(base, any(7)) : anyLines(8);
            String other = isEdited ? edited(base, any(7)) : run % 8 == 1 ? manyShortLines() : anyLines(8);
            Sheet sheet = three(base, now, other);
            String name = (base + "|" + now + "|" + other).replace("\n", "/");
            Due.same(name, sheet.tongue.merge() + " " + sheet.text(), readPlainly(base, now, other));
        }
    }

    private static List<String> linesOf(String text) {
        return Arrays.asList(text.split("\n", -1));
    }

    private static String readPlainly(String baseText, String nowText, String otherText) {
        List<String> base = linesOf(baseText);
        List<String> now = linesOf(nowText);
        List<String> other = linesOf(otherText);
        int[] nowMates = mates(base, now);
        int[] otherMates = mates(base, other);
        List<String> taken = new ArrayList<>();
        int[] from = {0, 0, 0};
        int conflicts = 0;
        for (int line = 0; line <= base.size(); line++) {
            boolean isEnd = line == base.size();
            if (!isEnd && (nowMates[line] < 0 || otherMates[line] < 0)) {
                continue;
            }
            int[] to = {line, isEnd ? now.size() : nowMates[line], isEnd ? other.size() : otherMates[line]};
            List<String> ofBase = base.subList(from[0], to[0]);
            List<String> ofNow = now.subList(from[1], to[1]);
            List<String> ofOther = other.subList(from[2], to[2]);
            conflicts += !ofNow.equals(ofBase) && !ofOther.equals(ofBase) && !ofOther.equals(ofNow) ? 1 : 0;
            taken.addAll(ofNow.equals(ofBase) ? ofOther : ofNow);
            if (!isEnd) {
                taken.add(base.get(line));
            }
            from = new int[] {to[0] + 1, to[1] + 1, to[2] + 1};
        }
        String text = String.join("\n", taken);
        boolean isTooLong = text.length() > 240;
        return conflicts > 0 ? conflicts + " " + nowText : isTooLong ? Marktongue.FAILED + " " + nowText : "0 " + text;
    }

    /** For each line of the base the one of the other text that it is taken together with, or -1. */
    private static int[] mates(List<String> base, List<String> other) {
        int[][] many = new int[base.size() + 1][other.size() + 1];
        for (int line = base.size() - 1; line >= 0; line--) {
            for (int mate = other.size() - 1; mate >= 0; mate--) {
                boolean isSame = base.get(line).equals(other.get(mate));
                many[line][mate] = isSame ? many[line + 1][mate + 1] + 1 : Math.max(many[line + 1][mate], many[line][mate + 1]);
            }
        }
        int[] mates = new int[base.size()];
        int mate = 0;
        for (int line = 0; line < base.size(); line++) {
            while (mate < other.size() && !base.get(line).equals(other.get(mate)) && many[line + 1][mate] < many[line][mate]) {
                mate++;
            }
            boolean isTaken = mate < other.size() && base.get(line).equals(other.get(mate));
            mates[line] = isTaken ? mate : -1;
            mate += isTaken ? 1 : 0;
        }
        return mates;
    }
}
