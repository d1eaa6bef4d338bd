import java.util.ArrayList;
import java.util.List;
import java.util.function.Function;
import java.util.stream.Collectors;

/** The tree of a text, what it prints and how it is formatted, by a second reading of the document. */
final class Reading {
    final String text;
    final List<Part> nodes = new ArrayList<>();
    final List<Integer> owners = new ArrayList<>();
    private final List<Part> definitions = new ArrayList<>();
    private final List<Part> headings = new ArrayList<>();
    private final List<List<Integer>> targets = List.of(new ArrayList<>(), new ArrayList<>());
    private final List<Boolean> fenced;

    Reading(String text) {
        this.text = text;
        BlockReading blocks = new BlockReading(text);
        fenced = blocks.fenced;
        number(blocks.document);
        for (Part node : nodes) {
            definitions.addAll(node.kind == Marktongue.DEFINITION ? List.of(node) : List.of());
            headings.addAll(node.kind == Marktongue.HEADING ? List.of(node) : List.of());
        }
        for (Part node : nodes) {
            if (node.kind == Marktongue.PARAGRAPH || node.kind == Marktongue.HEADING) {
                InlineReading.read(node, this::meaning);
            }
        }
        nodes.clear();
        number(blocks.document);
        blocks.owners.forEach(owner -> owners.add(owner.number));
        print(blocks.document);
    }

    private void number(Part node) {
        node.number = nodes.size();
        nodes.add(node);
        node.children.forEach(this::number);
    }

    private Part meaning(String name) {
        for (List<Part> parts : List.of(definitions, headings)) {
            for (Part part : parts) {
                if (part.name.equals(name)) {
                    return part;
                }
            }
        }
        return null;
    }

    /** What node tells of a node under that number. */
    int told(Part node, int what) {
        int parent = node.parent == null ? Marktongue.NONE : node.parent.number;
        return new int[] {node.kind, parent, node.children.size(), node.measure()}[what];
    }

    long count(int kind) {
        return nodes.stream().filter(node -> node.kind == kind).count();
    }

    /** All that can be asked of the text and its tree, told as a Sheet does. */
    String everything() {
        List<String> all = new ArrayList<>(List.of(text));
        for (int what = 0; what < 4; what++) {
            int asked = what;
            all.add(listed(nodes, node -> told(node, asked)));
        }
        nodes.forEach(node -> all.add(listed(node.children, child -> child.number)));
        all.add(listed(owners, owner -> owner));
        all.add(listed(nodes.stream().filter(node -> node.meant != null).toList(), link -> link.meant.number));
        all.add(listed(List.of(0, 1, 2, 3, 4, 5, 6, 7, 8, 9, 10, 11, 12), this::count));
        targets.forEach(numbers -> all.add(listed(numbers, number -> number)));
        return String.join("|", all);
    }

    private static <T> String listed(List<T> from, Function<T, Object> answer) {
        return from.stream().map(one -> "" + answer.apply(one)).collect(Collectors.joining(" "));
    }

    List<Integer> printed(int target) {
        return targets.get(target);
    }

    private void print(Part node) {
        boolean isMarked = node.kind != Marktongue.TEXT && node.kind != Marktongue.DEFINITION;
        if (isMarked) {
            targets.get(0).add(1000 + node.kind);
            printSign(node);
        }
        if (node.kind == Marktongue.TEXT || node.kind == Marktongue.CODE) {
            printCharacters(node.words);
        }
        if (node.kind == Marktongue.FENCE) {
            node.lines.forEach(line -> printCharacters(line + "\n"));
        }
        node.children.forEach(this::print);
        if (isMarked) {
            targets.get(0).add(2000 + node.kind);
        }
        if (node.kind == Marktongue.PARAGRAPH || node.kind == Marktongue.HEADING) {
            targets.get(1).add(10);
        }
    }

    private void printSign(Part node) {
        List<Integer> numbers = targets.get(0);
        if (node.kind == Marktongue.HEADING) {
            numbers.add(100 + node.level);
        } else if (node.kind == Marktongue.LIST) {
            numbers.add(node.isLoose ? 1 : 0);
        } else if (node.kind == Marktongue.LINK) {
            boolean isDefinition = node.meant.kind == Marktongue.DEFINITION;
            numbers.add(isDefinition ? 300 + definitions.indexOf(node.meant) : 400 + headings.indexOf(node.meant));
        }
    }

    private void printCharacters(String characters) {
        for (int character : characters.chars().toArray()) {
            targets.forEach(numbers -> numbers.add(character));
        }
    }

    /** null stands for a blank line until the end: they are thrown away but for one between two others. */
    String formatted() {
        String[] lines = text.split("\n", -1);
        List<String> left = new ArrayList<>();
        for (int line = 0; line < lines.length; line++) {
            String cut = fenced.get(line) ? lines[line] : lines[line].replaceAll(" +$", "");
            boolean isBlank = cut.isEmpty() && !fenced.get(line);
            boolean isBehindOther = !left.isEmpty() && left.get(left.size() - 1) != null;
            if (!isBlank || isBehindOther) {
                left.add(isBlank ? null : cut);
            }
        }
        if (!left.isEmpty() && left.get(left.size() - 1) == null) {
            left.remove(left.size() - 1);
        }
        left.replaceAll(line -> line == null ? "" : line);
        return String.join("\n", left);
    }
}
