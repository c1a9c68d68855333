import java.util.NoSuchElementException;
import java.util.function.Consumer;

/** Boundary cases: each one is named by its promise and the case, and has a keeper of its own. */
final class Edge {
    static final Class<IndexOutOfBoundsException> INDEX = IndexOutOfBoundsException.class;
    static final Class<IllegalArgumentException> ARGUMENT = IllegalArgumentException.class;
    static final Class<UnsupportedOperationException> FULL = UnsupportedOperationException.class;
    static final Class<NoSuchElementException> MISSING = NoSuchElementException.class;

    /** A call with the number that is at the boundary or beside it. */
    interface Call {
        void with(Tape x, int n);
    }

    private static final int[] CASES = new int[26];

    private Edge() {
    }

    static Tape begin(int promise, String boundary) {
        CASES[promise]++;
        Check.begin("promise " + promise + ", " + boundary);
        return new Tape();
    }

    static Tape begin(int promise, String boundary, Consumer<Tape> scene) {
        Tape x = begin(promise, boundary);
        scene.accept(x);
        return x;
    }

    /** The least, the most and their neighbours within are taken; those beyond, and the far ends, are not. */
    static void range(int promise, String boundary, int least, int most, Consumer<Tape> scene, Call call) {
        ends(promise, boundary, least, most, ARGUMENT, scene, call);
    }

    /** The same of what is numbered from 0 on. */
    static void numbered(int promise, String boundary, int count, Consumer<Tape> scene, Call call) {
        ends(promise, boundary, 0, count - 1, INDEX, scene, call);
    }

    private static void ends(int promise, String boundary, int least, int most,
            Class<? extends RuntimeException> thrown, Consumer<Tape> scene, Call call) {
        int[] within = {least, least + 1, most - 1, most};
        for (int n : within) {
            if (n >= least && n <= most) {
                taken(begin(promise, boundary + ", " + n + " is one", scene), n, call);
            }
        }
        int[] beyond = {least - 1, most + 1, Integer.MIN_VALUE, Integer.MAX_VALUE};
        for (int n : beyond) {
            none(promise, boundary, n, thrown, scene, call);
        }
    }

    static void none(int promise, String boundary, int n, Class<? extends RuntimeException> thrown,
            Consumer<Tape> scene, Call call) {
        Tape x = begin(promise, boundary + ", " + n + " is none", scene);
        Check.fails(x, "the call", thrown, () -> call.with(x, n));
    }

    private static void taken(Tape x, int n, Call call) {
        try {
            call.with(x, n);
        } catch (RuntimeException thrown) {
            Check.note("the call threw " + thrown);
        }
    }

    static void players(Tape x, int many) {
        for (int i = 0; i < many; i++) {
            x.player();
        }
    }

    static void rules(Tape x, int many) {
        for (int i = 0; i < many; i++) {
            x.rule(false);
        }
    }

    /** Singles of one player, all with the same room, none of them bound. */
    static void singles(Tape x, int player, int many, int room) {
        for (int i = 0; i < many; i++) {
            x.single(player, false, room);
        }
    }

    /** A rule that takes what is below 0 and gives what is above 0, kind by kind. */
    static int rule(Tape x, boolean source, int... won) {
        int rule = x.rule(source);
        for (int kind = 0; kind < won.length; kind++) {
            if (won[kind] != 0) {
                x.part(rule, kind, won[kind] > 0, Math.abs(won[kind]));
            }
        }
        return rule;
    }

    /** One of these singles lies in the one before it, each in turn. */
    static void chain(Tape x, int first, int last) {
        for (int single = first + 1; single <= last; single++) {
            Check.same("put " + single, x.put(single, single - 1), true);
        }
    }

    /** One of these singles lies in the one behind it, each in turn: what lies deeper has a lower number. */
    static void chainBack(Tape x, int first, int last) {
        for (int single = first; single < last; single++) {
            Check.same("put " + single, x.put(single, single + 1), true);
        }
    }

    /** Each of these promises has a case. */
    static void end(int... promises) {
        Check.begin("all");
        for (int promise : promises) {
            System.out.println("promise " + promise + ": " + CASES[promise] + " boundary cases");
            if (CASES[promise] == 0) {
                Check.note("promise " + promise + " has no case");
            }
        }
        Check.end();
    }
}
