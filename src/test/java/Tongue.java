import java.util.ArrayList;
import java.util.List;

/**
 * An object for tests. What an object answers after its 512th call is free, so it is made anew ahead of
 * more calls, by the same changes and the same calls that were refused.
 */
final class Tongue {
    static final int MOST_CALLS = 512;

    interface Call {
        int on(Marktongue object);
    }

    private final List<Call> past = new ArrayList<>();
    private Marktongue object = new Marktongue();
    private int calls = 0;

    /** Another object with the same past. */
    Tongue fork() {
        Tongue other = new Tongue();
        other.past.addAll(past);
        other.renew();
        return other;
    }

    int put(int place, int character) {
        return change(made -> made.put(place, character));
    }

    int take(int place, int many) {
        return change(made -> made.take(place, many));
    }

    int length() {
        return ask(made -> made.length());
    }

    int character(int place) {
        return ask(made -> made.character(place));
    }

    int clear() {
        return change(made -> made.clear());
    }

    int nodes() {
        return ask(made -> made.nodes());
    }

    int node(int node, int what) {
        return ask(made -> made.node(node, what));
    }

    int child(int node, int place) {
        return ask(made -> made.child(node, place));
    }

    int owner(int place) {
        return ask(made -> made.owner(place));
    }

    int leads(int node) {
        return ask(made -> made.leads(node));
    }

    int count(int kind) {
        return ask(made -> made.count(kind));
    }

    int print(int target) {
        return ask(made -> made.print(target));
    }

    int printed(int target, int place) {
        return ask(made -> made.printed(target, place));
    }

    int format() {
        return change(made -> made.format());
    }

    int keep(int slot) {
        return change(made -> made.keep(slot));
    }

    int load(int slot) {
        return change(made -> made.load(slot));
    }

    int merge() {
        return change(made -> made.merge());
    }

    /** Any call, of which it is not known whether it changes something. */
    int call(Call call) {
        return change(call);
    }

    /** Has the tree made, and made again whenever the object is made anew: so it has been used for this text. */
    void growTree() {
        change(made -> made.nodes());
    }

    private int change(Call call) {
        makeRoom();
        past.add(call);
        calls++;
        return call.on(object);
    }

    /** A refused question is part of the past, too: it must change nothing. */
    private int ask(Call call) {
        makeRoom();
        calls++;
        try {
            return call.on(object);
        } catch (RuntimeException refused) {
            past.add(call);
            throw refused;
        }
    }

    private void makeRoom() {
        if (calls == MOST_CALLS) {
            renew();
        }
    }

    private void renew() {
        if (past.size() >= MOST_CALLS) {
            throw new AssertionError("a test with too many changes");
        }
        object = new Marktongue();
        calls = past.size();
        for (Call call : past) {
            repeat(call);
        }
    }

    private void repeat(Call call) {
        try {
            call.on(object);
        } catch (RuntimeException refused) {
            // It was refused the first time, too, and the test has looked at that.
        }
    }
}
