/**
 * A markup engine: a text of at most 240 characters, the tree of its blocks and inline marks,
 * printing of that tree, a formatter, and merges by three ways.
 */
public final class Marktongue {
    public static final int NONE = -1;
    public static final int FAILED = -2;
    public static final int DOCUMENT = 0, QUOTE = 1, LIST = 2, ITEM = 3, HEADING = 4, FENCE = 5, PARAGRAPH = 6, DEFINITION = 7, TEXT = 8, EMPHASIS = 9, STRONG = 10, CODE = 11, LINK = 12;

    private static final int MOST_CHARACTERS = 240;
    private static final int MOST_LINES = MOST_CHARACTERS + 1;
    /** No character begins more than two nodes (LIST and ITEM, or PARAGRAPH and TEXT). */
    private static final int MOST_NODES = 2 * MOST_CHARACTERS + 2;
    /** Characters and the line ends behind the lines of FENCEs. */
    private static final int MOST_CONTENT = MOST_CHARACTERS + MOST_LINES;
    /** A node gives three numbers at most beside its characters. */
    private static final int MOST_NUMBERS = 3 * MOST_NODES + MOST_CONTENT;

    private static final int LINE_END = 10;
    private static final int BLANK = 32;
    private static final int LAST_CHARACTER = 126;

    private static final int LONGEST_NAME = 6;
    private static final int LONGEST_TARGET = 8;
    private static final long NO_NAME = 0;

    /** What a LINK gives in print: one of these, and how many of that kind are ahead. */
    private static final int TO_DEFINITION = 300;
    private static final int TO_HEADING = 400;

    /** What a written character is in the inline tree; a kind says that it begins such a node. */
    private static final int PLAIN = 0;
    private static final int PASSED = -3;
    private static final int ENDING = -4;

    private final Row text = new Row(MOST_CHARACTERS);
    private final Row firstSlot = new Row(MOST_CHARACTERS);
    private final Row secondSlot = new Row(MOST_CHARACTERS);
    private final Lines lines = new Lines(text);
    private final Blocks blocks = new Blocks();
    private final BlockReader blockReader = new BlockReader(text, lines, blocks);
    private final InlineReader inlineReader = new InlineReader(blocks);
    private final Tree tree = new Tree();
    private final Printer printer = new Printer(tree);
    private final Row formatted = new Row(MOST_CHARACTERS);
    private final Merger merger = new Merger(new Lines(firstSlot), lines, new Lines(secondSlot));
    /** Whether the tree is that of an earlier text. */
    private boolean stale = true;

    public Marktongue() {
    }

    // ---- text

    public int put(int place, int character) throws IndexOutOfBoundsException, IllegalArgumentException, IllegalStateException {
        if (place < 0 || place > text.size()) {
            throw new IndexOutOfBoundsException("no such place");
        }
        if (character != LINE_END && (character < BLANK || character > LAST_CHARACTER)) {
            throw new IllegalArgumentException("no such character");
        }
        if (text.size() >= MOST_CHARACTERS) {
            throw new IllegalStateException("the text is full");
        }
        text.insert(place, character);
        stale = true;
        return text.size();
    }

    public int take(int place, int many) throws IndexOutOfBoundsException, IllegalArgumentException {
        if (place < 0 || place >= text.size()) {
            throw new IndexOutOfBoundsException("no such place");
        }
        if (many < 1 || many > text.size() - place) {
            throw new IllegalArgumentException("not so many");
        }
        text.remove(place, many);
        stale = true;
        return text.size();
    }

    public int length() {
        return text.size();
    }

    public int character(int place) throws IndexOutOfBoundsException {
        if (place < 0 || place >= text.size()) {
            throw new IndexOutOfBoundsException("no such place");
        }
        return text.at(place);
    }

    public int clear() {
        int before = text.size();
        text.empty();
        stale = true;
        return before;
    }

    // ---- tree

    public int nodes() {
        growTree();
        return tree.size();
    }

    public int node(int node, int what) throws IndexOutOfBoundsException, IllegalArgumentException {
        growTree();
        if (node < 0 || node >= tree.size()) {
            throw new IndexOutOfBoundsException("no such node");
        }
        switch (what) {
            case 0:
                return tree.kindOf(node);
            case 1:
                return tree.parentOf(node);
            case 2:
                return tree.childrenOf(node);
            case 3:
                return tree.measureOf(node);
            default:
                throw new IllegalArgumentException("nothing of that number is told");
        }
    }

    public int child(int node, int place) throws IndexOutOfBoundsException {
        growTree();
        if (node < 0 || node >= tree.size()) {
            throw new IndexOutOfBoundsException("no such node");
        }
        if (place < 0 || place >= tree.childrenOf(node)) {
            throw new IndexOutOfBoundsException("no such child");
        }
        return tree.childOf(node, place);
    }

    public int owner(int place) throws IndexOutOfBoundsException {
        growTree();
        if (place < 0 || place >= text.size()) {
            throw new IndexOutOfBoundsException("no such place");
        }
        return tree.numberOf(blocks.ownerAt(place));
    }

    public int leads(int node) throws IndexOutOfBoundsException, IllegalStateException {
        growTree();
        if (node < 0 || node >= tree.size()) {
            throw new IndexOutOfBoundsException("no such node");
        }
        if (tree.kindOf(node) != LINK) {
            throw new IllegalStateException("no link");
        }
        return tree.numberOf(blocks.linkedBlock(tree.signOf(node)));
    }

    public int count(int kind) throws IllegalArgumentException {
        if (kind < DOCUMENT || kind > LINK) {
            throw new IllegalArgumentException("no such kind");
        }
        growTree();
        return tree.manyOf(kind);
    }

    // ---- targets, format

    public int print(int target) throws IllegalArgumentException {
        if (target != 0 && target != 1) {
            throw new IllegalArgumentException("no such target");
        }
        growTree();
        return printer.of(target).size();
    }

    public int printed(int target, int place) throws IllegalArgumentException, IndexOutOfBoundsException {
        if (target != 0 && target != 1) {
            throw new IllegalArgumentException("no such target");
        }
        growTree();
        Row numbers = printer.of(target);
        if (place < 0 || place >= numbers.size()) {
            throw new IndexOutOfBoundsException("no such place");
        }
        return numbers.at(place);
    }

    public int format() {
        growTree();
        int before = text.size();
        writeFormatted();
        text.become(formatted);
        stale = true;
        return before - text.size();
    }

    // ---- merges

    public int keep(int slot) throws IllegalArgumentException {
        if (slot != 0 && slot != 1) {
            throw new IllegalArgumentException("no such slot");
        }
        Row kept = slot == 0 ? firstSlot : secondSlot;
        int before = kept.size();
        kept.become(text);
        return before;
    }

    public int load(int slot) throws IllegalArgumentException {
        if (slot != 0 && slot != 1) {
            throw new IllegalArgumentException("no such slot");
        }
        text.become(slot == 0 ? firstSlot : secondSlot);
        stale = true;
        return text.size();
    }

    public int merge() {
        merger.run();
        if (merger.conflicts() > 0) {
            return merger.conflicts();
        }
        if (merger.mergedSize() > MOST_CHARACTERS) {
            return FAILED;
        }
        text.become(merger.merged());
        stale = true;
        return 0;
    }

    /** Makes the tree that of the text, if it is not. */
    private void growTree() {
        if (!stale) {
            return;
        }
        lines.split();
        blockReader.start();
        for (int line = 0; line < lines.many(); line++) {
            blockReader.read(line);
        }
        tree.start();
        for (int block = 0; block < blocks.size(); block++) {
            int number = tree.addBlock(blocks, block);
            int kind = blocks.kindOf(block);
            if (kind == PARAGRAPH || kind == HEADING) {
                copyLines(block);
                inlineReader.read();
                tree.addInline(inlineReader, number);
            } else if (kind == FENCE) {
                copyFence(block, number);
            }
        }
        printer.write();
        stale = false;
    }

    /** Gives the lines of a PARAGRAPH or HEADING, each without blanks at its ends, to the inline reader. */
    private void copyLines(int block) {
        inlineReader.start();
        int first = blocks.firstLineOf(block);
        for (int line = first; line < first + blocks.linesOf(block); line++) {
            if (line > first) {
                inlineReader.addCharacter(LINE_END);
            }
            int begin = skipBlanks(text, blocks.contentBegin(line), lines.end(line));
            int end = cutBlanks(text, begin, lines.end(line));
            for (int place = begin; place < end; place++) {
                inlineReader.addCharacter(text.at(place));
            }
        }
    }

    private void copyFence(int block, int number) {
        int first = blocks.firstLineOf(block) + 1;
        for (int line = first; line < first + blocks.linesOf(block); line++) {
            for (int place = blocks.contentBegin(line); place < lines.end(line); place++) {
                tree.addContent(number, text.at(place));
            }
            tree.addContent(number, LINE_END);
        }
    }

    /** Writes the formatted text of the lines and blocks that have been read. */
    private void writeFormatted() {
        formatted.empty();
        boolean isBehindBlank = false;
        for (int line = 0; line < lines.many(); line++) {
            int begin = lines.begin(line);
            boolean isFenced = blocks.kindOf(blocks.ownerOfLine(line)) == FENCE;
            int end = isFenced ? lines.end(line) : cutBlanks(text, begin, lines.end(line));
            boolean isBlank = end == begin && !isFenced;
            if (!isBlank) {
                writeLine(begin, end, isBehindBlank);
            }
            isBehindBlank = isBlank;
        }
    }

    /** No line that is written is empty but in a FENCE, so the first one finds nothing written. */
    private void writeLine(int begin, int end, boolean isBehindBlank) {
        if (formatted.size() > 0) {
            formatted.add(LINE_END);
            if (isBehindBlank) {
                formatted.add(LINE_END);
            }
        }
        for (int place = begin; place < end; place++) {
            formatted.add(text.at(place));
        }
    }

    private static boolean isLetterOrDigit(int character) {
        return character >= '0' && character <= '9'
                || character >= 'a' && character <= 'z'
                || character >= 'A' && character <= 'Z';
    }

    private static boolean isSign(int character) {
        return character > BLANK && !isLetterOrDigit(character);
    }

    /** Whether it is a blank, a line end, or NONE: the beginning or the end. */
    private static boolean isGap(int character) {
        return character == BLANK || character == LINE_END || character == NONE;
    }

    /** The first place from there on, ahead of the end, that has no blank; or else the end. */
    private static int skipBlanks(Row row, int from, int end) {
        for (int place = from; place < end; place++) {
            if (row.at(place) != BLANK) {
                return place;
            }
        }
        return end;
    }

    /** The least end such that between it and the given one there are just blanks, but not ahead of from. */
    private static int cutBlanks(Row row, int from, int end) {
        for (int place = end; place > from; place--) {
            if (row.at(place - 1) != BLANK) {
                return place;
            }
        }
        return from;
    }

    /** The first place from there on, ahead of the end, that has no letter or digit; or else the end. */
    private static int skipWord(Row row, int from, int end) {
        for (int place = from; place < end; place++) {
            if (!isLetterOrDigit(row.at(place))) {
                return place;
            }
        }
        return end;
    }

    /** One number for each name, or NO_NAME for what can be none. */
    private static long nameCode(Row row, int from, int end) {
        if (end <= from || end - from > LONGEST_NAME || skipWord(row, from, end) < end) {
            return NO_NAME;
        }
        long code = 0;
        for (int place = from; place < end; place++) {
            code = code * 128 + row.at(place);
        }
        return code;
    }

    /** The code of the anchor of a HEADING whose text is there. */
    private static long anchorCode(Row row, int from, int end) {
        long code = 0;
        int letters = 0;
        for (int place = from; place < end && letters < LONGEST_NAME; place++) {
            if (isLetterOrDigit(row.at(place))) {
                code = code * 128 + row.at(place);
                letters++;
            }
        }
        return letters == 0 ? 'x' : code;
    }

    /** Whole numbers in a row. Each place is looked at here, and only here, before it is used. */
    private static final class Row {
        private final int[] cells;
        private int size = 0;

        Row(int most) {
            cells = new int[most < 0 ? 0 : most];
        }

        int size() {
            return size;
        }

        /** The number there, or NONE if there is none. */
        int at(int place) {
            return place >= 0 && place < size && place < cells.length ? cells[place] : NONE;
        }

        void set(int place, int value) {
            if (place >= 0 && place < size && place < cells.length) {
                cells[place] = value;
            }
        }

        void add(int value) {
            if (size >= 0 && size < cells.length) {
                cells[size] = value;
                size++;
            }
        }

        void empty() {
            size = 0;
        }

        /** Leaves so many at the beginning. */
        void cut(int many) {
            if (many >= 0 && many < size) {
                size = many;
            }
        }

        void fill(int many, int value) {
            empty();
            for (int added = 0; added < many; added++) {
                add(value);
            }
        }

        void insert(int place, int value) {
            add(value);
            for (int moved = size - 1; moved > place; moved--) {
                set(moved, at(moved - 1));
            }
            set(place, value);
        }

        void remove(int place, int many) {
            for (int moved = place + many; moved < size; moved++) {
                set(moved - many, at(moved));
            }
            cut(size - many);
        }

        void become(Row other) {
            empty();
            for (int place = 0; place < other.size(); place++) {
                add(other.at(place));
            }
        }
    }

    /** Where the lines of a text begin and end. */
    private static final class Lines {
        private final Row text;
        private final Row begins = new Row(MOST_LINES);
        private final Row ends = new Row(MOST_LINES);

        Lines(Row text) {
            this.text = text;
        }

        void split() {
            begins.empty();
            ends.empty();
            begins.add(0);
            for (int place = 0; place < text.size(); place++) {
                if (text.at(place) == LINE_END) {
                    ends.add(place);
                    begins.add(place + 1);
                }
            }
            ends.add(text.size());
        }

        int many() {
            return ends.size();
        }

        int begin(int line) {
            return begins.at(line);
        }

        int end(int line) {
            return ends.at(line);
        }

        int characterAt(int place) {
            return text.at(place);
        }

        boolean isSame(int line, Lines others, int other) {
            int begin = begins.at(line);
            int otherBegin = others.begin(other);
            int size = ends.at(line) - begin;
            if (others.end(other) - otherBegin != size) {
                return false;
            }
            for (int place = 0; place < size; place++) {
                if (text.at(begin + place) != others.characterAt(otherBegin + place)) {
                    return false;
                }
            }
            return true;
        }
    }

    /** The names of DEFINITIONs, or the anchors of HEADINGs, as they follow in the tree. */
    private static final class Names {
        private final long[] codes = new long[MOST_LINES];
        private final Row named = new Row(MOST_LINES);

        void empty() {
            named.empty();
        }

        void add(long code, int block) {
            int place = named.size();
            if (place >= 0 && place < codes.length) {
                codes[place] = code;
                named.add(block);
            }
        }

        /** The place of the first one of that name, or NONE. */
        int find(long code) {
            for (int place = 0; place < named.size() && place < codes.length; place++) {
                if (codes[place] == code) {
                    return place;
                }
            }
            return NONE;
        }

        int blockAt(int place) {
            return named.at(place);
        }
    }

    /** The blocks, numbered as they were put in, and what the lines and characters belong to. */
    private static final class Blocks {
        private final Row kinds = new Row(MOST_NODES);
        private final Row parents = new Row(MOST_NODES);
        private final Row openChildren = new Row(MOST_NODES);
        private final Row filled = new Row(MOST_NODES);
        /** The level of a HEADING, whether a LIST is loose, how wide an ITEM is, or 0. */
        private final Row measures = new Row(MOST_NODES);
        private final Row markers = new Row(MOST_NODES);
        private final Row firstLines = new Row(MOST_NODES);
        private final Row lineCounts = new Row(MOST_NODES);
        private final Row contentBegins = new Row(MOST_LINES);
        private final Row lineOwners = new Row(MOST_LINES);
        private final Row owners = new Row(MOST_CHARACTERS);
        private final Names definitions = new Names();
        private final Names headings = new Names();

        void start(int characters, int lines) {
            kinds.empty();
            parents.empty();
            openChildren.empty();
            filled.empty();
            measures.empty();
            markers.empty();
            firstLines.empty();
            lineCounts.empty();
            contentBegins.fill(lines, 0);
            lineOwners.fill(lines, 0);
            owners.fill(characters, 0);
            definitions.empty();
            headings.empty();
        }

        /** Puts a block into a container, which closes what is open in that. */
        int add(int kind, int parent, boolean isBehindBlank) {
            int list = kinds.at(parent) == ITEM ? parents.at(parent) : parent;
            if (isBehindBlank && filled.at(parent) == 1 && kinds.at(list) == LIST) {
                measures.set(list, 1);
            }
            int block = kinds.size();
            kinds.add(kind);
            parents.add(parent);
            openChildren.add(NONE);
            filled.add(0);
            measures.add(0);
            markers.add(NONE);
            firstLines.add(NONE);
            lineCounts.add(0);
            filled.set(parent, 1);
            openChildren.set(parent, block);
            return block;
        }

        void close(int block) {
            openChildren.set(parents.at(block), NONE);
        }

        int openIn(int block) {
            return openChildren.at(block);
        }

        int innermostOpen() {
            int block = 0;
            for (int depth = 0; depth < MOST_NODES && openIn(block) != NONE; depth++) {
                block = openIn(block);
            }
            return block;
        }

        int size() {
            return kinds.size();
        }

        int kindOf(int block) {
            return kinds.at(block);
        }

        int parentOf(int block) {
            return parents.at(block);
        }

        boolean isContainer(int block) {
            int kind = kinds.at(block);
            return kind >= DOCUMENT && kind <= ITEM;
        }

        int measureOf(int block) {
            return kinds.at(block) == FENCE ? lineCounts.at(block) : measures.at(block);
        }

        void measure(int block, int value) {
            measures.set(block, value);
        }

        int markerOf(int list) {
            return markers.at(list);
        }

        void mark(int list, int marker) {
            markers.set(list, marker);
        }

        int firstLineOf(int block) {
            return firstLines.at(block);
        }

        int linesOf(int block) {
            return lineCounts.at(block);
        }

        void beginAt(int block, int line) {
            firstLines.set(block, line);
        }

        void addLine(int block) {
            lineCounts.set(block, lineCounts.at(block) + 1);
        }

        int contentBegin(int line) {
            return contentBegins.at(line);
        }

        void beginContent(int line, int place) {
            contentBegins.set(line, place);
        }

        int ownerOfLine(int line) {
            return lineOwners.at(line);
        }

        void ownLine(int line, int block) {
            lineOwners.set(line, block);
        }

        int ownerAt(int place) {
            return owners.at(place);
        }

        void own(int place, int block) {
            owners.set(place, block);
        }

        void define(long code, int block) {
            definitions.add(code, block);
        }

        void anchor(long code, int block) {
            headings.add(code, block);
        }

        /** What a LINK of that name gives in print, or NONE if it leads nowhere. */
        int linkSign(long code) {
            int definition = definitions.find(code);
            int heading = headings.find(code);
            if (definition != NONE) {
                return TO_DEFINITION + definition;
            }
            return heading != NONE ? TO_HEADING + heading : NONE;
        }

        int linkedBlock(int sign) {
            return sign >= TO_HEADING ? headings.blockAt(sign - TO_HEADING) : definitions.blockAt(sign - TO_DEFINITION);
        }
    }

    /** Makes the blocks, line by line. */
    private static final class BlockReader {
        private final Row text;
        private final Lines lines;
        private final Blocks blocks;
        private int rest = 0;
        private int end = 0;
        /** The innermost container that goes on, or was put in, and is no LIST. */
        private int inner = 0;
        /** The first container that does not go on, or NONE. */
        private int stopped = NONE;
        private boolean isPutIn = false;
        private boolean isBehindBlank = false;

        BlockReader(Row text, Lines lines, Blocks blocks) {
            this.text = text;
            this.lines = lines;
            this.blocks = blocks;
        }

        void start() {
            blocks.start(text.size(), lines.many());
            blocks.add(DOCUMENT, NONE, false);
            isBehindBlank = false;
        }

        void read(int line) {
            rest = lines.begin(line);
            end = lines.end(line);
            isPutIn = false;
            goOn();
            int fence = stopped == NONE ? blocks.openIn(inner) : NONE;
            boolean isBlank = false;
            int block;
            if (blocks.kindOf(fence) == FENCE) {
                block = readInFence(fence);
            } else {
                putContainersIn();
                isBlank = skipBlanks(text, rest, end) == end;
                block = isBlank ? readBlank() : readLeaf(line);
                isBlank = isBlank && !isPutIn;
            }
            if (blocks.kindOf(block) != HEADING) {
                blocks.beginContent(line, rest);
            }
            ownRest(line, block);
            isBehindBlank = isBlank;
        }

        private void goOn() {
            inner = 0;
            stopped = NONE;
            int block = blocks.openIn(0);
            for (int depth = 0; depth < MOST_NODES && blocks.isContainer(block); depth++) {
                if (!goesOn(block)) {
                    stopped = block;
                    return;
                }
                if (blocks.kindOf(block) != LIST) {
                    inner = block;
                }
                block = blocks.openIn(block);
            }
        }

        private boolean goesOn(int container) {
            int kind = blocks.kindOf(container);
            if (kind == QUOTE) {
                if (look(0) != '>') {
                    return false;
                }
                takeOff(look(1) == BLANK ? 2 : 1, container);
            } else if (kind == ITEM) {
                int blanks = skipBlanks(text, rest, end) - rest;
                int width = blocks.measureOf(container);
                boolean isAllBlank = rest + blanks == end;
                if (!isAllBlank && blanks < width) {
                    return false;
                }
                takeOff(isAllBlank ? blanks : width, container);
            }
            return true;
        }

        private int readInFence(int fence) {
            if (isFenceMark()) {
                blocks.close(fence);
            } else {
                blocks.addLine(fence);
            }
            return fence;
        }

        private void putContainersIn() {
            for (int step = 0; step < MOST_CHARACTERS; step++) {
                int marker = markerSize();
                if (marker == 0) {
                    return;
                }
                int block = look(0) == '>' ? blocks.add(QUOTE, inner, isBehindBlank) : putItem(marker);
                takeOff(look(marker) == BLANK ? marker + 1 : marker, block);
                inner = block;
                isPutIn = true;
            }
        }

        /** How many characters of the rest are the marker of a container, or 0. */
        private int markerSize() {
            int first = look(0);
            if (first == '>') {
                return 1;
            }
            int size = 0;
            if (first == '-' || first == '+') {
                size = 1;
            } else if (first >= '0' && first <= '9' && look(1) == '.') {
                size = 2;
            }
            return size > 0 && isGap(look(size)) ? size : 0;
        }

        private int putItem(int markerSize) {
            int marker = markerSize == 2 ? '0' : look(0);
            int list = blocks.openIn(inner);
            if (blocks.kindOf(list) != LIST || blocks.markerOf(list) != marker) {
                list = blocks.add(LIST, inner, isBehindBlank);
                blocks.mark(list, marker);
            }
            int item = blocks.add(ITEM, list, isBehindBlank);
            blocks.measure(item, markerSize + 1);
            return item;
        }

        /** What does not go on is within the innermost one that does, so one closing is enough. */
        private int readBlank() {
            int open = blocks.openIn(inner);
            if (open == stopped && open != NONE || blocks.kindOf(open) == PARAGRAPH) {
                blocks.close(open);
            }
            return inner;
        }

        private int readLeaf(int line) {
            int level = headingLevel();
            if (level > 0) {
                return putHeading(line, level);
            }
            if (isFenceMark()) {
                return putLeaf(FENCE, line);
            }
            int paragraph = blocks.innermostOpen();
            if (blocks.kindOf(paragraph) == PARAGRAPH && !isPutIn) {
                blocks.addLine(paragraph);
                return paragraph;
            }
            long name = definedName();
            if (name != NO_NAME) {
                int definition = putLeaf(DEFINITION, line);
                blocks.define(name, definition);
                blocks.close(definition);
                return definition;
            }
            paragraph = putLeaf(PARAGRAPH, line);
            blocks.addLine(paragraph);
            return paragraph;
        }

        private int putHeading(int line, int level) {
            int heading = putLeaf(HEADING, line);
            blocks.measure(heading, level);
            blocks.addLine(heading);
            blocks.beginContent(line, rest + level);
            blocks.anchor(anchorCode(text, rest + level, end), heading);
            blocks.close(heading);
            return heading;
        }

        private int putLeaf(int kind, int line) {
            int block = blocks.add(kind, inner, isBehindBlank);
            blocks.beginAt(block, line);
            return block;
        }

        /** How many # begin a HEADING, or 0 if it is none. */
        private int headingLevel() {
            int level = 0;
            for (int ahead = 0; ahead < 3 && look(ahead) == '#'; ahead++) {
                level++;
            }
            return isGap(look(level)) ? level : 0;
        }

        private boolean isFenceMark() {
            return look(0) == '~' && look(1) == '~' && look(2) == '~' && skipBlanks(text, rest + 3, end) == end;
        }

        /** The code of the name that the rest defines, or NO_NAME. */
        private long definedName() {
            int nameEnd = skipWord(text, rest + 1, end);
            int gap = nameEnd + 2;
            if (look(0) != '[' || look(nameEnd - rest) != ']' || look(nameEnd + 1 - rest) != ':') {
                return NO_NAME;
            }
            int target = skipBlanks(text, gap, end);
            int targetEnd = skipWord(text, target, end);
            int targetSize = targetEnd - target;
            if (target == gap || targetSize < 1 || targetSize > LONGEST_TARGET || skipBlanks(text, targetEnd, end) < end) {
                return NO_NAME;
            }
            return nameCode(text, rest + 1, nameEnd);
        }

        /** The character so many behind the beginning of the rest, or NONE behind the line. */
        private int look(int ahead) {
            return rest + ahead < end ? text.at(rest + ahead) : NONE;
        }

        private void takeOff(int many, int container) {
            for (int taken = 0; taken < many; taken++) {
                blocks.own(rest, container);
                rest++;
            }
        }

        /** The rest, and the line end behind it, if there is one, belong to that block. */
        private void ownRest(int line, int block) {
            blocks.ownLine(line, block);
            for (int place = rest; place <= end; place++) {
                blocks.own(place, block);
            }
        }
    }

    /** Finds the inline marks of one PARAGRAPH or HEADING: what each written character is. */
    private static final class InlineReader {
        private final Blocks blocks;
        private final Row written = new Row(MOST_CHARACTERS);
        private final Row roles = new Row(MOST_CHARACTERS);
        private final Row signs = new Row(MOST_CHARACTERS);
        /** The places of each [ that is open. */
        private final Row brackets = new Row(MOST_CHARACTERS);
        private final Runs runs = new Runs();

        InlineReader(Blocks blocks) {
            this.blocks = blocks;
        }

        void start() {
            written.empty();
            roles.empty();
            signs.empty();
            brackets.empty();
            runs.empty();
        }

        void addCharacter(int character) {
            written.add(character);
            roles.add(PLAIN);
            signs.add(NONE);
        }

        int size() {
            return written.size();
        }

        int characterAt(int place) {
            return written.at(place);
        }

        int roleAt(int place) {
            return roles.at(place);
        }

        int signAt(int place) {
            return signs.at(place);
        }

        void read() {
            int place = 0;
            for (int step = 0; step < MOST_CHARACTERS && place < written.size(); step++) {
                switch (written.at(place)) {
                    case '\\':
                        place = passEscape(place);
                        break;
                    case '`':
                        place = passTicks(place);
                        break;
                    case '[':
                        brackets.add(place);
                        place++;
                        break;
                    case ']':
                        place = passBracket(place);
                        break;
                    case '*':
                        place = passStars(place);
                        break;
                    default:
                        place++;
                }
            }
            runs.resolve(0, roles);
        }

        private int passEscape(int place) {
            if (!isSign(written.at(place + 1))) {
                return place + 1;
            }
            roles.set(place, PASSED);
            return place + 2;
        }

        private int passTicks(int place) {
            int begin = runEnd(place);
            int ticks = begin - place;
            int end = findTicks(begin, ticks);
            if (end == NONE) {
                return begin;
            }
            pass(place, begin);
            roles.set(place, CODE);
            pass(end, end + ticks);
            roles.set(end, ENDING);
            return end + ticks;
        }

        /** Where the next run of just so many ticks begins, or NONE. */
        private int findTicks(int from, int ticks) {
            int place = from;
            for (int step = 0; step < MOST_CHARACTERS && place < written.size(); step++) {
                int next = runEnd(place);
                if (written.at(place) == '`' && next - place == ticks) {
                    return place;
                }
                place = next;
            }
            return NONE;
        }

        /** Where what is the same as at that place, from there on, ends. */
        private int runEnd(int place) {
            for (int end = place + 1; end < written.size(); end++) {
                if (written.at(end) != written.at(place)) {
                    return end;
                }
            }
            return written.size();
        }

        private void pass(int from, int end) {
            for (int place = from; place < end; place++) {
                roles.set(place, PASSED);
            }
        }

        private int passBracket(int place) {
            if (brackets.size() == 0) {
                return place + 1;
            }
            int open = brackets.at(brackets.size() - 1);
            brackets.cut(brackets.size() - 1);
            int behind = referenceEnd(place + 1);
            boolean isReferred = behind > place + 1;
            long name = isReferred ? nameCode(written, place + 2, behind - 1) : nameCode(written, open + 1, place);
            int sign = name == NO_NAME ? NONE : blocks.linkSign(name);
            if (sign == NONE) {
                return place + 1;
            }
            roles.set(open, LINK);
            signs.set(open, sign);
            roles.set(place, ENDING);
            pass(place + 1, behind);
            brackets.empty();
            runs.resolve(runs.firstBehind(open), roles);
            return behind;
        }

        /** Where [, a name, and ] end, if they are there; otherwise where they should begin. */
        private int referenceEnd(int place) {
            if (written.at(place) != '[') {
                return place;
            }
            int end = skipWord(written, place + 1, written.size());
            int size = end - place - 1;
            return size >= 1 && size <= LONGEST_NAME && written.at(end) == ']' ? end + 1 : place;
        }

        private int passStars(int place) {
            int end = runEnd(place);
            runs.add(place, end, written.at(place - 1), written.at(end));
            return end;
        }
    }

    /** The runs of * that are still to be looked at, and how many * of each are left. */
    private static final class Runs {
        private final Row begins = new Row(MOST_CHARACTERS);
        private final Row ends = new Row(MOST_CHARACTERS);
        private final Row sizes = new Row(MOST_CHARACTERS);
        private final Row opening = new Row(MOST_CHARACTERS);
        private final Row closing = new Row(MOST_CHARACTERS);

        void empty() {
            cut(0);
        }

        private void cut(int many) {
            begins.cut(many);
            ends.cut(many);
            sizes.cut(many);
            opening.cut(many);
            closing.cut(many);
        }

        void add(int begin, int end, int ahead, int behind) {
            begins.add(begin);
            ends.add(end);
            sizes.add(end - begin);
            opening.add(isFlank(behind, ahead) ? 1 : 0);
            closing.add(isFlank(ahead, behind) ? 1 : 0);
        }

        /** Whether what is at the inner side, and what is at the outer one, let a run open or close. */
        private boolean isFlank(int inner, int outer) {
            return !isGap(inner) && (!isSign(inner) || isGap(outer) || isSign(outer));
        }

        /** The first run behind that place. */
        int firstBehind(int place) {
            for (int run = 0; run < begins.size(); run++) {
                if (begins.at(run) > place) {
                    return run;
                }
            }
            return begins.size();
        }

        /** Pairs the runs from that one on among themselves, and forgets them. */
        void resolve(int first, Row roles) {
            for (int closer = first; closer < begins.size(); closer++) {
                for (int step = 0; step < MOST_CHARACTERS && closing.at(closer) == 1 && left(closer) > 0; step++) {
                    int opener = openerOf(closer, first);
                    if (opener == NONE) {
                        break;
                    }
                    pair(opener, closer, roles);
                }
            }
            cut(first);
        }

        private int left(int run) {
            return ends.at(run) - begins.at(run);
        }

        private int openerOf(int closer, int first) {
            for (int run = closer - 1; run >= first; run--) {
                if (opening.at(run) == 1 && left(run) > 0 && !breaksRule(run, closer)) {
                    return run;
                }
            }
            return NONE;
        }

        private boolean breaksRule(int opener, int closer) {
            boolean isDouble = closing.at(opener) == 1 || opening.at(closer) == 1;
            int openerSize = sizes.at(opener);
            int together = openerSize + sizes.at(closer);
            return isDouble && together % 3 == 0 && openerSize % 3 != 0;
        }

        /** An opener gives * from its end, a closer from its beginning; runs between have none left. */
        private void pair(int opener, int closer, Row roles) {
            int stars = left(opener) >= 2 && left(closer) >= 2 ? 2 : 1;
            int open = ends.at(opener) - stars;
            int close = begins.at(closer);
            if (stars == 2) {
                roles.set(open + 1, PASSED);
                roles.set(close + 1, PASSED);
            }
            roles.set(open, stars == 2 ? STRONG : EMPHASIS);
            roles.set(close, ENDING);
            ends.set(opener, open);
            begins.set(closer, close + stars);
            for (int run = opener + 1; run < closer; run++) {
                ends.set(run, begins.at(run));
            }
        }
    }

    /** The nodes of the tree, each ahead of those within. */
    private static final class Tree {
        private final Row kinds = new Row(MOST_NODES);
        private final Row parents = new Row(MOST_NODES);
        private final Row children = new Row(MOST_NODES);
        private final Row measures = new Row(MOST_NODES);
        /** The number that a node gives in print behind that of its kind, or NONE. */
        private final Row signs = new Row(MOST_NODES);
        private final Row contentBegins = new Row(MOST_NODES);
        private final Row contentSizes = new Row(MOST_NODES);
        private final Row content = new Row(MOST_CONTENT);
        /** The numbers that the blocks have as nodes. */
        private final Row numbers = new Row(MOST_NODES);

        void start() {
            kinds.empty();
            parents.empty();
            children.empty();
            measures.empty();
            signs.empty();
            contentBegins.empty();
            contentSizes.empty();
            content.empty();
            numbers.empty();
        }

        int addBlock(Blocks blocks, int block) {
            int kind = blocks.kindOf(block);
            int measure = blocks.measureOf(block);
            int sign = NONE;
            if (kind == HEADING) {
                sign = 100 + measure;
            } else if (kind == LIST) {
                sign = measure;
            }
            int number = add(kind, numbers.at(blocks.parentOf(block)), sign);
            measures.set(number, measure);
            numbers.add(number);
            return number;
        }

        private int add(int kind, int parent, int sign) {
            int number = kinds.size();
            kinds.add(kind);
            parents.add(parent);
            children.add(0);
            measures.add(0);
            signs.add(sign);
            contentBegins.add(content.size());
            contentSizes.add(0);
            children.set(parent, children.at(parent) + 1);
            return number;
        }

        void addContent(int number, int character) {
            content.add(character);
            contentSizes.set(number, contentSizes.at(number) + 1);
        }

        /** Adds what the reader found as the nodes within a PARAGRAPH or HEADING. */
        void addInline(InlineReader reader, int leaf) {
            int inside = leaf;
            int words = NONE;
            for (int place = 0; place < reader.size(); place++) {
                int role = reader.roleAt(place);
                if (role == PLAIN) {
                    if (kinds.at(inside) == CODE) {
                        words = inside;
                    } else if (words == NONE) {
                        words = add(TEXT, inside, NONE);
                    }
                    addContent(words, reader.characterAt(place));
                    measures.set(words, contentSizes.at(words));
                } else if (role == ENDING) {
                    inside = parents.at(inside);
                    words = NONE;
                } else if (role != PASSED) {
                    inside = add(role, inside, reader.signAt(place));
                    words = NONE;
                }
            }
        }

        int size() {
            return kinds.size();
        }

        int kindOf(int number) {
            return kinds.at(number);
        }

        int parentOf(int number) {
            return parents.at(number);
        }

        int childrenOf(int number) {
            return children.at(number);
        }

        int measureOf(int number) {
            return measures.at(number);
        }

        int signOf(int number) {
            return signs.at(number);
        }

        int numberOf(int block) {
            return numbers.at(block);
        }

        int childOf(int number, int place) {
            int ahead = 0;
            for (int other = number + 1; other < parents.size(); other++) {
                if (parents.at(other) == number) {
                    if (ahead == place) {
                        return other;
                    }
                    ahead++;
                }
            }
            return NONE;
        }

        int manyOf(int kind) {
            int many = 0;
            for (int number = 0; number < kinds.size(); number++) {
                if (kinds.at(number) == kind) {
                    many++;
                }
            }
            return many;
        }

        int contentSizeOf(int number) {
            return contentSizes.at(number);
        }

        int contentOf(int number, int place) {
            return content.at(contentBegins.at(number) + place);
        }
    }

    /** Prints a tree to both targets. */
    private static final class Printer {
        private final Tree tree;
        private final Row marked = new Row(MOST_NUMBERS);
        private final Row plain = new Row(MOST_NUMBERS);

        Printer(Tree tree) {
            this.tree = tree;
        }

        Row of(int target) {
            return target == 0 ? marked : plain;
        }

        void write() {
            marked.empty();
            plain.empty();
            int last = NONE;
            for (int number = 0; number < tree.size(); number++) {
                endUpTo(tree.parentOf(number), last);
                begin(number);
                last = number;
            }
            endUpTo(NONE, last);
        }

        private void begin(int number) {
            if (isMarked(number)) {
                marked.add(1000 + tree.kindOf(number));
                if (tree.signOf(number) != NONE) {
                    marked.add(tree.signOf(number));
                }
            }
            for (int place = 0; place < tree.contentSizeOf(number); place++) {
                marked.add(tree.contentOf(number, place));
                plain.add(tree.contentOf(number, place));
            }
        }

        /** Ends the last node, and those around it, but not that parent. */
        private void endUpTo(int parent, int last) {
            int number = last;
            for (int depth = 0; depth < MOST_NODES && number != parent; depth++) {
                if (isMarked(number)) {
                    marked.add(2000 + tree.kindOf(number));
                }
                if (tree.kindOf(number) == PARAGRAPH || tree.kindOf(number) == HEADING) {
                    plain.add(LINE_END);
                }
                number = tree.parentOf(number);
            }
        }

        private boolean isMarked(int number) {
            return tree.kindOf(number) != TEXT && tree.kindOf(number) != DEFINITION;
        }
    }

    /** Takes the lines of two texts together, as many as can be. */
    private static final class Pairing {
        private static final int WORDS_A_LINE = MOST_LINES / 64 + 1;
        /** Bits, as a table of whole numbers would fill the room. */
        private final long[] leavings = new long[MOST_LINES * WORDS_A_LINE];
        private final Row many = new Row(MOST_LINES + 1);
        private final Row manyBehind = new Row(MOST_LINES + 1);

        /** Gives for each line of the base the line of the other text that it is taken together with, or NONE. */
        void pair(Lines base, Lines other, Row mates) {
            fillLeavings(base, other);
            mates.fill(base.many(), NONE);
            int line = 0;
            int otherLine = 0;
            for (int step = 0; step < 2 * MOST_LINES && line < base.many() && otherLine < other.many(); step++) {
                if (base.isSame(line, other, otherLine)) {
                    mates.set(line, otherLine);
                    line++;
                    otherLine++;
                } else if (isLeftOut(line, otherLine)) {
                    line++;
                } else {
                    otherLine++;
                }
            }
        }

        /** From the ends on: whether as many lines can be taken together without that line of the base. */
        private void fillLeavings(Lines base, Lines other) {
            manyBehind.fill(other.many() + 1, 0);
            many.fill(other.many() + 1, 0);
            for (int line = base.many() - 1; line >= 0; line--) {
                for (int otherLine = other.many() - 1; otherLine >= 0; otherLine--) {
                    int without = manyBehind.at(otherLine);
                    int withoutOther = many.at(otherLine + 1);
                    leaveOut(line, otherLine, without >= withoutOther);
                    boolean isSame = base.isSame(line, other, otherLine);
                    many.set(otherLine, isSame ? manyBehind.at(otherLine + 1) + 1 : Math.max(without, withoutOther));
                }
                manyBehind.become(many);
            }
        }

        private boolean isLeftOut(int line, int otherLine) {
            int word = line * WORDS_A_LINE + otherLine / 64;
            return word >= 0 && word < leavings.length && (leavings[word] >>> (otherLine & 63) & 1) == 1;
        }

        private void leaveOut(int line, int otherLine, boolean isLeft) {
            int word = line * WORDS_A_LINE + otherLine / 64;
            long bit = 1L << (otherLine & 63);
            if (word >= 0 && word < leavings.length) {
                leavings[word] = isLeft ? leavings[word] | bit : leavings[word] & ~bit;
            }
        }
    }

    /** Merges two texts that come from the same base. */
    private static final class Merger {
        private final Lines base;
        private final Lines now;
        private final Lines other;
        private final Pairing pairing = new Pairing();
        private final Row nowMates = new Row(MOST_LINES);
        private final Row otherMates = new Row(MOST_LINES);
        private final Row merged = new Row(MOST_CHARACTERS);
        private int mergedLines = 0;
        /** How many characters it would be, even if they are too many. */
        private int mergedSize = 0;
        private int conflicts = 0;
        private int baseFrom = 0;
        private int nowFrom = 0;
        private int otherFrom = 0;

        Merger(Lines base, Lines now, Lines other) {
            this.base = base;
            this.now = now;
            this.other = other;
        }

        Row merged() {
            return merged;
        }

        int mergedSize() {
            return mergedSize;
        }

        int conflicts() {
            return conflicts;
        }

        void run() {
            base.split();
            now.split();
            other.split();
            pairing.pair(base, now, nowMates);
            pairing.pair(base, other, otherMates);
            merged.empty();
            mergedLines = 0;
            mergedSize = 0;
            conflicts = 0;
            startBehind(NONE, NONE, NONE);
            for (int line = 0; line < base.many(); line++) {
                int nowMate = nowMates.at(line);
                int otherMate = otherMates.at(line);
                if (nowMate != NONE && otherMate != NONE) {
                    settle(line, nowMate, otherMate);
                    write(base, line, line + 1);
                    startBehind(line, nowMate, otherMate);
                }
            }
            settle(base.many(), now.many(), other.many());
        }

        private void startBehind(int baseLine, int nowLine, int otherLine) {
            baseFrom = baseLine + 1;
            nowFrom = nowLine + 1;
            otherFrom = otherLine + 1;
        }

        /** Takes what lies between firm lines from one of the texts, or finds a conflict. */
        private void settle(int baseTo, int nowTo, int otherTo) {
            if (areSame(now, nowFrom, nowTo, base, baseFrom, baseTo)) {
                write(other, otherFrom, otherTo);
            } else if (areSame(other, otherFrom, otherTo, base, baseFrom, baseTo)
                    || areSame(other, otherFrom, otherTo, now, nowFrom, nowTo)) {
                write(now, nowFrom, nowTo);
            } else {
                conflicts++;
            }
        }

        private boolean areSame(Lines ones, int from, int to, Lines others, int otherFirst, int otherTo) {
            if (to - from != otherTo - otherFirst) {
                return false;
            }
            for (int line = 0; line < to - from; line++) {
                if (!ones.isSame(from + line, others, otherFirst + line)) {
                    return false;
                }
            }
            return true;
        }

        private void write(Lines taken, int from, int to) {
            for (int line = from; line < to; line++) {
                if (mergedLines > 0) {
                    merged.add(LINE_END);
                    mergedSize++;
                }
                for (int place = taken.begin(line); place < taken.end(line); place++) {
                    merged.add(taken.characterAt(place));
                    mergedSize++;
                }
                mergedLines++;
            }
        }
    }
}
