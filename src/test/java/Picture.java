import java.util.function.Function;

/**
 * All that a keeper tells of its state behind the first calls of a tape. It is asked of new keepers on which
 * those calls were made again, each for at most 512 calls, so that asking (and trying) changes nothing.
 */
final class Picture {
    private static final int KINDS = 4;
    private static final int WHATS = 9;
    private static final int LAST_PLACE = 31;
    private static final int LAST_DEED = 12;

    private final Tape tape;
    private final int length;
    private final StringBuilder text = new StringBuilder();
    private GoodsKeeper keeper;
    private int left;

    private Picture(Tape tape, int length) {
        this.tape = tape;
        this.length = length;
    }

    static String of(Tape tape, int length) {
        Picture picture = new Picture(tape, length);
        if (length < Tape.MOST_CALLS) {
            picture.draw();
        }
        return picture.text.toString();
    }

    private void renew() {
        keeper = tape.again(length);
        left = Tape.MOST_CALLS - length;
    }

    /** For calls that change nothing: many can be asked of one keeper. */
    private Object ask(Function<GoodsKeeper, Object> call) {
        if (left == 0) {
            renew();
        }
        left--;
        Object answer = call.apply(keeper);
        text.append(answer).append(' ');
        return answer;
    }

    /** For calls that change something: they begin with a keeper of their own, if there is room for so many. */
    private boolean begins(String name, int calls) {
        renew();
        text.append("\n  ").append(name).append(": ");
        return calls <= left;
    }

    private void attempt(Function<GoodsKeeper, Object> call) {
        try {
            ask(call);
        } catch (RuntimeException thrown) {
            text.append(thrown.getClass().getSimpleName()).append(' ');
        }
    }

    private void draw() {
        int[] counts = new int[WHATS];
        text.append("counts: ");
        for (int what = 0; what < WHATS; what++) {
            int each = what;
            counts[what] = (Integer) ask(x -> x.count(each));
        }
        ask(GoodsKeeper::gains);
        ask(GoodsKeeper::earns);
        ask(GoodsKeeper::bars);
        drawGoods(counts[1]);
        for (int single = 0; single < counts[3]; single++) {
            drawSingle(single);
        }
        left = 0;
        tryNumbers();
        for (int offer = 0; offer < counts[6]; offer++) {
            tryOffer(offer);
        }
        for (int rule = 0; rule < counts[2]; rule++) {
            tryDeeds(counts[1], rule);
        }
        left = 0;
    }

    private void drawGoods(int players) {
        text.append("\n  goods: ");
        for (int i = 0; i < KINDS; i++) {
            int kind = i;
            ask(x -> x.sum(kind, false));
            ask(x -> x.sum(kind, true));
            for (int j = 0; j < players; j++) {
                int player = j;
                ask(x -> x.has(player, kind));
            }
        }
    }

    private void drawSingle(int single) {
        text.append("\n  single ").append(single).append(": ");
        for (int i = 0; i < WHATS; i++) {
            int what = i;
            ask(x -> x.look(single, what));
        }
        int places = (Integer) ask(x -> x.look(single, WHATS - 1));
        for (int i = -1; i <= Math.min(places, LAST_PLACE); i++) {
            int place = i;
            ask(x -> x.line(single, place, false));
            ask(x -> x.line(single, place, true));
        }
    }

    private void tryNumbers() {
        if (begins("next numbers", 4)) {
            attempt(x -> x.single(0, false, 0));
            attempt(x -> x.offer(0, 1, 0, 0, -1, 0, 0, -1));
            attempt(GoodsKeeper::player);
            attempt(x -> x.rule(false));
        }
    }

    private void tryOffer(int offer) {
        if (begins("offer " + offer, 1)) {
            ask(x -> x.agree(offer));
        }
    }

    /** From the highest number down, so that each player's next one is met before its latest one has changed. */
    private void tryDeeds(int players, int rule) {
        for (int i = 0; i < players; i++) {
            int player = i;
            if (!begins("deeds of " + player + " by " + rule, LAST_DEED + 2 + 3 * KINDS)) {
                continue;
            }
            for (int j = LAST_DEED; j >= -1; j--) {
                int number = j;
                ask(x -> x.deed(player, number, rule, 1));
            }
            for (int j = 0; j < KINDS; j++) {
                int kind = j;
                ask(x -> x.has(player, kind));
                ask(x -> x.sum(kind, false));
                ask(x -> x.sum(kind, true));
            }
        }
    }
}
