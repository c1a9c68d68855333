/** What the tests share: noting wrong answers, and the whole state of a keeper as its calls tell it. */
final class Check {
    private static int wrong = 0;

    private Check() {
    }

    static void same(String what, long got, long want) {
        if (got != want) {
            note(what + " answered " + got + ", due is " + want);
        }
    }

    static void same(String what, boolean got, boolean want) {
        if (got != want) {
            note(what + " answered " + got + ", due is " + want);
        }
    }

    static void note(String fault) {
        wrong++;
        System.out.println(fault);
    }

    /** The call must throw just that class (none below it: the machine throws those) itself, and change nothing. */
    static void fails(GoodsKeeper keeper, String what, Class<? extends RuntimeException> want, Runnable call) {
        String before = state(keeper);
        Class<?> got = null;
        try {
            call.run();
        } catch (RuntimeException thrown) {
            got = thrown.getClass();
            thrownByKeeper(what, thrown);
        }
        if (got != want) {
            note(what + " threw " + got + ", due is " + want);
        }
        sameState(what, before, keeper);
    }

    /** The library would throw for a wrong index, too: the throw must be one of the keeper's own. */
    static void thrownByKeeper(String what, Exception thrown) {
        StackTraceElement[] trace = thrown.getStackTrace();
        if (trace.length == 0 || !trace[0].getClassName().startsWith("GoodsKeeper")) {
            note(what + " was thrown by another: " + thrown);
        }
    }

    static void sameState(String what, String before, GoodsKeeper keeper) {
        String after = state(keeper);
        if (!before.equals(after)) {
            note(what + " changed\n  " + before + "\nto\n  " + after);
        }
    }

    /** A false answer must leave all as it was. */
    static void refused(GoodsKeeper keeper, String what, java.util.function.BooleanSupplier call) {
        String before = state(keeper);
        same(what, call.getAsBoolean(), false);
        sameState(what, before, keeper);
    }

    static String state(GoodsKeeper keeper) {
        StringBuilder text = new StringBuilder();
        for (int what = 0; what <= 8; what++) {
            text.append(keeper.count(what)).append(' ');
        }
        text.append(keeper.gains()).append(keeper.earns()).append(keeper.bars());
        for (int kind = 0; kind < 4; kind++) {
            text.append(" s").append(keeper.sum(kind, false)).append('/').append(keeper.sum(kind, true));
        }
        for (int player = 0; player < keeper.count(1); player++) {
            text.append(" p");
            for (int kind = 0; kind < 4; kind++) {
                text.append(keeper.has(player, kind)).append(',');
            }
        }
        for (int single = 0; single < keeper.count(3); single++) {
            text.append(singleState(keeper, single));
        }
        return text.toString();
    }

    private static String singleState(GoodsKeeper keeper, int single) {
        StringBuilder text = new StringBuilder(" [");
        for (int what = 0; what <= 8; what++) {
            text.append(keeper.look(single, what)).append(' ');
        }
        for (int k = -1; k <= 31; k++) {
            text.append(keeper.line(single, k, false)).append('@').append(keeper.line(single, k, true)).append(' ');
        }
        return text.append(']').toString();
    }

    static void end() {
        if (wrong != 0) {
            System.out.println(wrong + " answers are not as due");
            System.exit(1);
        }
        System.out.println("all answers are as due");
    }
}
