import java.util.ArrayList;
import java.util.List;
import java.util.regex.Matcher;
import java.util.regex.Pattern;

/** The section "Blocks", read a second time, with patterns and lists instead of rows and places. */
final class BlockReading {
    private static final Pattern MARKER = Pattern.compile("(>|[-+](?= |$)|[0-9]\\.(?= |$)) ?");
    private static final Pattern HEADING = Pattern.compile("(#{1,3})(?: (.*))?");
    private static final Pattern FENCE = Pattern.compile("~~~ *");
    private static final Pattern DEFINITION = Pattern.compile("\\[([a-zA-Z0-9]{1,6})\\]: +[a-zA-Z0-9]{1,8} *");
    private static final Pattern BLANK = Pattern.compile(" *");

    final Part document = new Part(Marktongue.DOCUMENT);
    /** For each character of the text the block that has it. */
    final List<Part> owners = new ArrayList<>();
    /** For each line whether it belongs to a FENCE. */
    final List<Boolean> fenced = new ArrayList<>();
    private String rest = "";
    private Part inner = document;
    private boolean isPutIn = false;
    private boolean isBehindBlank = false;

    BlockReading(String text) {
        for (String line : text.split("\n", -1)) {
            readLine(line);
        }
        owners.remove(owners.size() - 1);
    }

    private void readLine(String line) {
        rest = line;
        isPutIn = false;
        Part stopped = goOn();
        Part fence = stopped == null ? inner.openChild() : null;
        boolean isBlank = false;
        Part has;
        if (fence != null && fence.kind == Marktongue.FENCE) {
            has = fence;
            readFenced(fence);
        } else {
            putContainersIn();
            if (fits(BLANK)) {
                isBlank = !isPutIn;
                has = readBlank(stopped);
            } else {
                has = readLeaf();
            }
        }
        fenced.add(has.kind == Marktongue.FENCE);
        takeOff(rest.length(), has);
        owners.add(has);
        isBehindBlank = isBlank;
    }

    private boolean fits(Pattern pattern) {
        return pattern.matcher(rest).matches();
    }

    private void takeOff(int many, Part owner) {
        for (int taken = 0; taken < many; taken++) {
            owners.add(owner);
        }
        rest = rest.substring(many);
    }

    /** Answers the first open container that does not go on, or null. */
    private Part goOn() {
        inner = document;
        for (Part one = document.openChild(); one != null && one.isContainer(); one = one.openChild()) {
            if (one.kind == Marktongue.LIST) {
                continue;
            }
            int many = one.kind == Marktongue.QUOTE ? quoteMark() : fits(BLANK) ? rest.length() : indent(one.width);
            if (many < 0) {
                return one;
            }
            takeOff(many, one);
            inner = one;
        }
        return null;
    }

    private int quoteMark() {
        return rest.startsWith("> ") ? 2 : rest.startsWith(">") ? 1 : -1;
    }

    private int indent(int width) {
        return rest.startsWith(" ".repeat(width)) ? width : -1;
    }

    private void readFenced(Part fence) {
        if (fits(FENCE)) {
            fence.isOpen = false;
        } else {
            fence.lines.add(rest);
        }
    }

    private void putContainersIn() {
        Matcher marker = MARKER.matcher(rest);
        while (marker.lookingAt()) {
            Part container = inner;
            Part block = new Part(rest.startsWith(">") ? Marktongue.QUOTE : Marktongue.ITEM);
            if (block.kind == Marktongue.ITEM) {
                block.width = marker.group(1).length() + 1;
                container = listFor(marker.group(1));
            }
            container.putIn(block, isBehindBlank);
            takeOff(marker.end(), block);
            inner = block;
            isPutIn = true;
            marker.reset(rest);
        }
    }

    private Part listFor(String written) {
        char marker = written.length() == 2 ? '0' : written.charAt(0);
        Part open = inner.openChild();
        if (open != null && open.kind == Marktongue.LIST && open.marker == marker) {
            return open;
        }
        Part list = new Part(Marktongue.LIST);
        list.marker = marker;
        inner.putIn(list, isBehindBlank);
        return list;
    }

    private Part readBlank(Part stopped) {
        if (stopped != null) {
            stopped.close();
        }
        Part open = inner.openChild();
        if (open != null && open.kind == Marktongue.PARAGRAPH) {
            open.isOpen = false;
        }
        return inner;
    }

    private Part readLeaf() {
        Matcher heading = HEADING.matcher(rest);
        Matcher definition = DEFINITION.matcher(rest);
        Part paragraph = openParagraph();
        Part leaf;
        if (heading.matches()) {
            leaf = new Part(Marktongue.HEADING);
            leaf.level = heading.group(1).length();
            leaf.words = heading.group(2) == null ? "" : withoutBlanks(heading.group(2));
            leaf.name = anchor(leaf.words);
        } else if (fits(FENCE)) {
            leaf = new Part(Marktongue.FENCE);
        } else if (paragraph != null && !isPutIn) {
            addLine(paragraph);
            return paragraph;
        } else if (definition.matches()) {
            leaf = new Part(Marktongue.DEFINITION);
            leaf.name = definition.group(1);
        } else {
            leaf = new Part(Marktongue.PARAGRAPH);
            addLine(leaf);
        }
        inner.putIn(leaf, isBehindBlank);
        leaf.isOpen = leaf.kind == Marktongue.FENCE || leaf.kind == Marktongue.PARAGRAPH;
        return leaf;
    }

    private Part openParagraph() {
        Part innermost = document;
        while (innermost.openChild() != null) {
            innermost = innermost.openChild();
        }
        return innermost.kind == Marktongue.PARAGRAPH ? innermost : null;
    }

    private void addLine(Part paragraph) {
        paragraph.lines.add(withoutBlanks(rest));
        paragraph.words = String.join("\n", paragraph.lines);
    }

    private static String withoutBlanks(String written) {
        return written.replaceAll("^ +| +$", "");
    }

    private static String anchor(String words) {
        String letters = words.replaceAll("[^a-zA-Z0-9]", "");
        return letters.isEmpty() ? "x" : letters.substring(0, Math.min(6, letters.length()));
    }
}
