import java.util.ArrayList;
import java.util.List;
import java.util.function.Function;

/**
 * A keeper whose calls are kept, so that they can be made again on a new one. The document promises nothing
 * behind the 512th call, so a test that makes more of one keeper is a wrong test, and told as one.
 */
final class Tape {
    static final int MOST_CALLS = 512;

    private final GoodsKeeper keeper = new GoodsKeeper();
    private final List<Function<GoodsKeeper, ?>> calls = new ArrayList<>();

    int length() {
        return calls.size();
    }

    /** A new keeper on which the first calls of this one were made. */
    GoodsKeeper again(int length) {
        GoodsKeeper copy = new GoodsKeeper();
        for (int i = 0; i < length; i++) {
            try {
                calls.get(i).apply(copy);
            } catch (RuntimeException thrown) {
                // A call that throws belongs to the tape: a test has looked at what it throws.
            }
        }
        return copy;
    }

    private <T> T ask(Function<GoodsKeeper, T> call) {
        calls.add(call);
        if (calls.size() == MOST_CALLS + 1) {
            Check.note("the test makes more than 512 calls of one keeper");
        }
        return call.apply(keeper);
    }

    int player() {
        return ask(x -> x.player());
    }

    int rule(boolean source) {
        return ask(x -> x.rule(source));
    }

    void part(int rule, int kind, boolean out, int n) {
        ask(x -> {
            x.part(rule, kind, out, n);
            return null;
        });
    }

    int deed(int player, int number, int rule, int times) {
        return ask(x -> x.deed(player, number, rule, times));
    }

    int has(int player, int kind) {
        return ask(x -> x.has(player, kind));
    }

    long sum(int kind, boolean broken) {
        return ask(x -> x.sum(kind, broken));
    }

    int single(int player, boolean bound, int room) {
        return ask(x -> x.single(player, bound, room));
    }

    boolean put(int single, int into) {
        return ask(x -> x.put(single, into));
    }

    boolean take(int single) {
        return ask(x -> x.take(single));
    }

    boolean give(int single, int to) {
        return ask(x -> x.give(single, to));
    }

    boolean lend(int single, int to, int day) {
        return ask(x -> x.lend(single, to, day));
    }

    int wear(int single, int n) {
        return ask(x -> x.wear(single, n));
    }

    int days(int n) {
        return ask(x -> x.days(n));
    }

    int look(int single, int what) {
        return ask(x -> x.look(single, what));
    }

    int line(int single, int k, boolean day) {
        return ask(x -> x.line(single, k, day));
    }

    int offer(int a, int b, int many, int kind, int single, int forMany, int forKind, int forSingle) {
        return ask(x -> x.offer(a, b, many, kind, single, forMany, forKind, forSingle));
    }

    int agree(int offer) {
        return ask(x -> x.agree(offer));
    }

    boolean withdraw(int offer) {
        return ask(x -> x.withdraw(offer));
    }

    boolean gains() {
        return ask(x -> x.gains());
    }

    void times(int rule, int n) {
        ask(x -> {
            x.times(rule, n);
            return null;
        });
    }

    boolean earns() {
        return ask(x -> x.earns());
    }

    void weigh(int kind, int n) {
        ask(x -> {
            x.weigh(kind, n);
            return null;
        });
    }

    boolean bars() {
        return ask(x -> x.bars());
    }

    int count(int what) {
        return ask(x -> x.count(what));
    }
}
