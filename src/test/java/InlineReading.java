import java.util.ArrayList;
import java.util.List;
import java.util.function.Function;
import java.util.regex.Matcher;
import java.util.regex.Pattern;

/** The section "Inline", read a second time: pieces in a list, from which marks are cut out. */
final class InlineReading {
    private static final Pattern ESCAPE = Pattern.compile("\\\\([^a-zA-Z0-9 \n])");
    private static final Pattern TICKS = Pattern.compile("`+");
    private static final Pattern STARS = Pattern.compile("\\*+");
    private static final Pattern NAME = Pattern.compile("\\[([a-zA-Z0-9]{1,6})\\]");
    private static final Pattern GAP = Pattern.compile("[ \n]?");
    private static final Pattern SIGN = Pattern.compile("[^a-zA-Z0-9 \n]");

    /** A character, a [ that is open, a run of *, or a node. */
    private static final class Piece {
        final Part node;
        final String written;
        final int place;
        boolean isOpenBracket = false;
        boolean isRun = false;
        boolean mayOpen = false;
        boolean mayClose = false;
        int left = 0;

        Piece(Part node, String written, int place) {
            this.node = node;
            this.written = written;
            this.place = place;
        }
    }

    private final String words;
    private final Function<String, Part> meaning;
    private List<Piece> pieces = new ArrayList<>();
    private int place = 0;

    /** Gives the leaf the nodes within it; the meaning of a name is a DEFINITION, a HEADING, or null. */
    static void read(Part leaf, Function<String, Part> meaning) {
        new InlineReading(leaf.words, meaning).fill(leaf);
    }

    private InlineReading(String words, Function<String, Part> meaning) {
        this.words = words;
        this.meaning = meaning;
    }

    private void fill(Part leaf) {
        while (place < words.length()) {
            readPiece();
        }
        pairRuns(pieces);
        adopt(leaf, pieces);
    }

    private Matcher here(Pattern pattern) {
        Matcher matcher = pattern.matcher(words).region(place, words.length());
        return matcher.lookingAt() ? matcher : null;
    }

    private void addCharacters(String written) {
        for (char one : written.toCharArray()) {
            pieces.add(new Piece(null, "" + one, place));
        }
    }

    private void readPiece() {
        Matcher escape = here(ESCAPE);
        if (escape != null) {
            addCharacters(escape.group(1));
            place = escape.end();
            return;
        }
        switch (words.charAt(place)) {
            case '`':
                readTicks();
                return;
            case '*':
                readStars();
                return;
            case ']':
                readClosing();
                return;
            default:
                addCharacters(words.substring(place, place + 1));
                pieces.get(pieces.size() - 1).isOpenBracket = words.charAt(place) == '[';
                place++;
        }
    }

    private void readTicks() {
        String run = here(TICKS).group();
        int begin = place + run.length();
        Matcher next = TICKS.matcher(words);
        for (int from = begin; next.find(from); from = next.end()) {
            if (next.group().equals(run)) {
                Part code = new Part(Marktongue.CODE);
                code.words = words.substring(begin, next.start());
                pieces.add(new Piece(code, "", place));
                place = next.end();
                return;
            }
        }
        addCharacters(run);
        place = begin;
    }

    private void readStars() {
        Piece run = new Piece(null, here(STARS).group(), place);
        run.isRun = true;
        run.left = run.written.length();
        String ahead = written(place - 1);
        place += run.left;
        String behind = written(place);
        run.mayOpen = isFlank(behind, ahead);
        run.mayClose = isFlank(ahead, behind);
        pieces.add(run);
    }

    /** The character there, or nothing at the beginning and the end. */
    private String written(int there) {
        return there < 0 || there >= words.length() ? "" : words.substring(there, there + 1);
    }

    private static boolean isFlank(String inner, String outer) {
        boolean isOuterFree = fits(GAP, outer) || fits(SIGN, outer);
        return !fits(GAP, inner) && (!fits(SIGN, inner) || isOuterFree);
    }

    private static boolean fits(Pattern pattern, String character) {
        return pattern.matcher(character).matches();
    }

    private void readClosing() {
        int open = pieces.size() - 1;
        while (open >= 0 && !pieces.get(open).isOpenBracket) {
            open--;
        }
        if (open < 0) {
            addCharacters("]");
            place++;
            return;
        }
        Piece bracket = pieces.get(open);
        bracket.isOpenBracket = false;
        String name = words.substring(bracket.place + 1, place);
        place++;
        Matcher behind = here(NAME);
        Part link = new Part(Marktongue.LINK);
        link.meant = meaning.apply(behind == null ? name : behind.group(1));
        if (link.meant == null) {
            addCharacters("]");
            return;
        }
        place = behind == null ? place : behind.end();
        closeLink(open, link);
    }

    private void closeLink(int open, Part link) {
        List<Piece> within = new ArrayList<>(pieces.subList(open + 1, pieces.size()));
        pairRuns(within);
        adopt(link, within);
        pieces = new ArrayList<>(pieces.subList(0, open));
        pieces.forEach(piece -> piece.isOpenBracket = false);
        pieces.add(new Piece(link, "", place));
    }

    /** Makes EMPHASIS and STRONG of what is between two runs of those pieces. */
    private static void pairRuns(List<Piece> all) {
        for (Piece closer : new ArrayList<>(all)) {
            Piece opener = closer.mayClose ? openerFor(closer, all) : null;
            while (opener != null) {
                int stars = Math.min(2, Math.min(opener.left, closer.left));
                opener.left -= stars;
                closer.left -= stars;
                Part mark = new Part(stars == 2 ? Marktongue.STRONG : Marktongue.EMPHASIS);
                List<Piece> within = all.subList(all.indexOf(opener) + 1, all.indexOf(closer));
                adopt(mark, within);
                within.clear();
                all.add(all.indexOf(closer), new Piece(mark, "", closer.place));
                opener = openerFor(closer, all);
            }
        }
    }

    private static Piece openerFor(Piece closer, List<Piece> all) {
        for (int at = all.indexOf(closer) - 1; at >= 0 && closer.left > 0; at--) {
            Piece opener = all.get(at);
            boolean isBoth = opener.mayOpen && opener.mayClose || closer.mayOpen && closer.mayClose;
            int one = opener.written.length();
            int other = closer.written.length();
            boolean isBroken = isBoth && (one + other) % 3 == 0 && !(one % 3 == 0 && other % 3 == 0);
            if (opener.mayOpen && opener.left > 0 && !isBroken) {
                return opener;
            }
        }
        return null;
    }

    /** What is no node becomes TEXT; of a run just the * that are left. */
    private static void adopt(Part around, List<Piece> within) {
        Part text = null;
        for (Piece piece : within) {
            if (piece.node != null) {
                around.adopt(piece.node);
                text = null;
                continue;
            }
            String characters = piece.isRun ? "*".repeat(piece.left) : piece.written;
            if (!characters.isEmpty() && text == null) {
                text = new Part(Marktongue.TEXT);
                around.adopt(text);
            }
            if (text != null) {
                text.words += characters;
            }
        }
    }
}
