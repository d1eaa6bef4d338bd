import java.util.ArrayList;
import java.util.List;

/** A node of the tree, as the second reading of the document makes it. */
final class Part {
    final int kind;
    final List<Part> children = new ArrayList<>();
    final List<String> lines = new ArrayList<>();
    Part parent = null;
    boolean isOpen = true;
    boolean isLoose = false;
    /** Of a LIST: -, + or 0 for any digit. */
    char marker = ' ';
    int width = 0;
    int level = 0;
    /** The text of a HEADING or PARAGRAPH as it is written, or the characters of a TEXT or CODE. */
    String words = "";
    /** The name of a DEFINITION, or the anchor of a HEADING. */
    String name = "";
    Part meant = null;
    int number = 0;

    Part(int kind) {
        this.kind = kind;
    }

    boolean isContainer() {
        return kind <= Marktongue.ITEM;
    }

    Part lastChild() {
        return children.isEmpty() ? null : children.get(children.size() - 1);
    }

    /** The last child, if it is open, or null. */
    Part openChild() {
        Part last = lastChild();
        return last != null && last.isOpen ? last : null;
    }

    void close() {
        isOpen = false;
        children.forEach(Part::close);
    }

    /** Puts a block into this container. */
    void putIn(Part block, boolean isBehindBlank) {
        if (isBehindBlank && !children.isEmpty()) {
            Part list = kind == Marktongue.ITEM ? parent : this;
            list.isLoose |= list.kind == Marktongue.LIST;
        }
        children.forEach(Part::close);
        adopt(block);
    }

    void adopt(Part child) {
        child.parent = this;
        children.add(child);
    }

    /** What node tells of it under 3. */
    int measure() {
        switch (kind) {
            case Marktongue.HEADING:
                return level;
            case Marktongue.TEXT:
            case Marktongue.CODE:
                return words.length();
            case Marktongue.FENCE:
                return lines.size();
            case Marktongue.LIST:
                return isLoose ? 1 : 0;
            case Marktongue.ITEM:
                return width;
            default:
                return 0;
        }
    }
}
