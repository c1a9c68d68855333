import java.util.function.BooleanSupplier;
import java.util.function.LongSupplier;

/** What the tests share: noting wrong answers, and seeing that a call changed nothing. */
final class Check {
    private static int wrong = 0;
    private static String about = "";

    private Check() {
    }

    /** Names what the answers that follow are about. */
    static void begin(String subject) {
        about = subject + ": ";
    }

    static void same(String what, long got, long want) {
        if (got != want) {
            note(what + " answered " + got + ", due is " + want);
        }
    }

    static void same(String what, boolean got, boolean want) {
        if (got != want) {
            note(what + " answered " + got + ", due is " + want);
        }
    }

    static void note(String fault) {
        wrong++;
        System.out.println(about + fault);
    }

    /** The call must throw just that class (none below it: the machine throws those) itself, and change nothing. */
    static void fails(Tape keeper, String what, Class<? extends RuntimeException> want, Runnable call) {
        int before = keeper.length();
        Class<?> got = null;
        try {
            call.run();
        } catch (RuntimeException thrown) {
            got = thrown.getClass();
            thrownByKeeper(what, thrown);
        }
        if (got != want) {
            note(what + " threw " + got + ", due is " + want);
        }
        unchanged(keeper, what, before);
    }

    /** The library would throw for a wrong index, too: the throw must be one of the keeper's own. */
    static void thrownByKeeper(String what, Exception thrown) {
        StackTraceElement[] trace = thrown.getStackTrace();
        if (trace.length == 0 || !trace[0].getClassName().startsWith("GoodsKeeper")) {
            note(what + " was thrown by another: " + thrown);
        }
    }

    /** Nothing is other than it was when so many calls had been made. */
    static void unchanged(Tape keeper, String what, int before) {
        String then = Picture.of(keeper, before);
        String now = Picture.of(keeper, keeper.length());
        if (keeper.length() < Tape.MOST_CALLS && !then.equals(now)) {
            note(what + " changed\n  " + then + "\nto\n  " + now);
        }
    }

    /** A false answer must leave all as it was. */
    static void refused(Tape keeper, String what, BooleanSupplier call) {
        idle(keeper, what, 0, () -> call.getAsBoolean() ? 1 : 0);
    }

    /** The answer is due, and all is left as it was. */
    static void idle(Tape keeper, String what, long want, LongSupplier call) {
        int before = keeper.length();
        same(what, call.getAsLong(), want);
        unchanged(keeper, what, before);
    }

    static void end() {
        if (wrong != 0) {
            System.out.println(wrong + " answers are not as due");
            System.exit(1);
        }
        System.out.println("all answers are as due");
    }
}
