import java.util.ArrayList;
import java.util.Arrays;
import java.util.List;

/**
 * What an object should answer, by a second reading of the document: the calls of the face by name,
 * answers as texts, an exception by its name.
 */
final class Model {
    static final String PLACE = "IndexOutOfBoundsException";
    static final String ARGUMENT = "IllegalArgumentException";
    static final String STATE = "IllegalStateException";
    private static final int MOST = 240;

    private final String[] slots;
    private String text;
    private Reading reading = new Reading("");

    Model(String text, String firstSlot, String secondSlot) {
        this.text = text;
        slots = new String[] {firstSlot, secondSlot};
    }

    String text() {
        return text;
    }

    /** The tree is what the text is now; it is read when it is asked for. */
    Reading reading() {
        if (!reading.text.equals(text)) {
            reading = new Reading(text);
        }
        return reading;
    }

    String answer(String call, int first, int second) {
        switch (call) {
            case "put":
                return put(first, second);
            case "take":
                return take(first, second);
            case "length":
                return "" + text.length();
            case "character":
                return isIn(first, text.length()) ? "" + (int) text.charAt(first) : PLACE;
            case "clear":
                return clear();
            case "keep":
                return keep(first);
            case "load":
                return load(first);
            case "merge":
                return merge();
            case "format":
                return format();
            default:
                return asked(call, first, second);
        }
    }

    private String asked(String call, int first, int second) {
        List<Part> nodes = reading().nodes;
        boolean isNode = isIn(first, nodes.size());
        switch (call) {
            case "nodes":
                return "" + nodes.size();
            case "node":
                return !isNode ? PLACE : !isIn(second, 4) ? ARGUMENT : "" + reading.told(nodes.get(first), second);
            case "child":
                boolean isChild = isNode && isIn(second, nodes.get(first).children.size());
                return isChild ? "" + nodes.get(first).children.get(second).number : PLACE;
            case "owner":
                return isIn(first, text.length()) ? "" + reading.owners.get(first) : PLACE;
            case "leads":
                return isNode ? leads(nodes.get(first)) : PLACE;
            case "count":
                return isIn(first, 13) ? "" + reading.count(first) : ARGUMENT;
            case "print":
                return isIn(first, 2) ? "" + reading.printed(first).size() : ARGUMENT;
            case "printed":
                return isIn(first, 2) ? printed(reading.printed(first), second) : ARGUMENT;
            default:
                throw new AssertionError(call);
        }
    }

    private static boolean isIn(int place, int end) {
        return place >= 0 && place < end;
    }

    private String put(int place, int character) {
        if (!isIn(place, text.length() + 1)) {
            return PLACE;
        }
        if (character != 10 && (character < 32 || character > 126)) {
            return ARGUMENT;
        }
        if (text.length() == MOST) {
            return STATE;
        }
        text = text.substring(0, place) + (char) character + text.substring(place);
        return "" + text.length();
    }

    private String take(int place, int many) {
        if (!isIn(place, text.length())) {
            return PLACE;
        }
        if (many < 1 || many > text.length() - place) {
            return ARGUMENT;
        }
        text = text.substring(0, place) + text.substring(place + many);
        return "" + text.length();
    }

    private static String leads(Part node) {
        return node.kind == Marktongue.LINK ? "" + node.meant.number : STATE;
    }

    private static String printed(List<Integer> numbers, int place) {
        return isIn(place, numbers.size()) ? "" + numbers.get(place) : PLACE;
    }

    private String clear() {
        int before = text.length();
        text = "";
        return "" + before;
    }

    private String format() {
        int before = text.length();
        text = reading().formatted();
        return "" + (before - text.length());
    }

    private String keep(int slot) {
        if (!isIn(slot, 2)) {
            return ARGUMENT;
        }
        int before = slots[slot].length();
        slots[slot] = text;
        return "" + before;
    }

    private String load(int slot) {
        if (!isIn(slot, 2)) {
            return ARGUMENT;
        }
        text = slots[slot];
        return "" + text.length();
    }

    private String merge() {
        List<String> base = lines(slots[0]);
        List<String> now = lines(text);
        List<String> other = lines(slots[1]);
        int[] nowMates = mates(base, now);
        int[] otherMates = mates(base, other);
        List<String> taken = new ArrayList<>();
        int conflicts = 0;
        int[] from = {0, 0, 0};
        for (int line = 0; line <= base.size(); line++) {
            boolean isEnd = line == base.size();
            int[] to = isEnd ? new int[] {line, now.size(), other.size()} : new int[] {line, nowMates[line], otherMates[line]};
            if (to[1] < 0 || to[2] < 0) {
                continue;
            }
            List<String> settled = settled(base.subList(from[0], to[0]), now.subList(from[1], to[1]), other.subList(from[2], to[2]));
            conflicts += settled == null ? 1 : 0;
            taken.addAll(settled == null ? List.of() : settled);
            taken.addAll(isEnd ? List.of() : List.of(base.get(line)));
            from = new int[] {to[0] + 1, to[1] + 1, to[2] + 1};
        }
        return merged(conflicts, String.join("\n", taken));
    }

    private String merged(int conflicts, String taken) {
        if (conflicts == 0 && taken.length() <= MOST) {
            text = taken;
            return "0";
        }
        return "" + (conflicts > 0 ? conflicts : Marktongue.FAILED);
    }

    private static List<String> lines(String written) {
        return Arrays.asList(written.split("\n", -1));
    }

    private static List<String> settled(List<String> base, List<String> now, List<String> other) {
        if (now.equals(base)) {
            return other;
        }
        return other.equals(base) || other.equals(now) ? now : null;
    }

    /** For each line of the base the one of the other text that it is taken together with, or -1. */
    private static int[] mates(List<String> base, List<String> other) {
        int[][] most = new int[base.size() + 1][other.size() + 1];
        for (int line = base.size() - 1; line >= 0; line--) {
            for (int mate = other.size() - 1; mate >= 0; mate--) {
                int both = most[line + 1][mate + 1] + (base.get(line).equals(other.get(mate)) ? 1 : 0);
                most[line][mate] = Math.max(both, Math.max(most[line + 1][mate], most[line][mate + 1]));
            }
        }
        int[] mates = new int[base.size()];
        Arrays.fill(mates, -1);
        int mate = 0;
        for (int line = 0; line < base.size() && mate < other.size();) {
            if (base.get(line).equals(other.get(mate))) {
                mates[line++] = mate++;
            } else if (most[line + 1][mate] == most[line][mate]) {
                line++;
            } else {
                mate++;
            }
        }
        return mates;
    }
}
