import java.util.function.Consumer;

/** Promises 20 to 25, at their boundaries: gains, times, earns, weigh, bars, count. */
public final class HuntEdgesTest {
    private static final int KINDS = 4;

    public static void main(String[] args) {
        gainsOfNothing();
        gainsOfSources();
        gainsOfOneRule();
        gainsOfOneKindLost();
        gainsRoundARing();
        gainsByALittle();
        gainsByMoreThanThousandTimes();
        gainsOfTenRules();
        gainsWhoeverHasWhat();
        timesNumbers();
        timesToldAnew();
        earnsOfNothing();
        earnsOfSources();
        earnsByOne();
        earnsOfEachKind();
        earnsByThousandTimes();
        weighNumbers();
        barsOfWeights();
        barsByOne();
        barsOfSources();
        barsOfEachRule();
        barsByThousand();
        countNumbers();
        countDays();
        countBrokenAndLent();
        countOffers();
        countDeeds();
        Edge.end(20, 21, 22, 23, 24, 25);
    }

    private static void gains(Tape x, String what, boolean due) {
        Check.idle(x, what, due ? 1 : 0, () -> x.gains() ? 1 : 0);
    }

    private static void earns(Tape x, String what, boolean due) {
        Check.idle(x, what, due ? 1 : 0, () -> x.earns() ? 1 : 0);
    }

    private static void bars(Tape x, String what, boolean due) {
        Check.idle(x, what, due ? 1 : 0, () -> x.bars() ? 1 : 0);
    }

    private static void weights(Tape x, int... told) {
        for (int kind = 0; kind < told.length; kind++) {
            x.weigh(kind, told[kind]);
        }
    }

    /** A rule that wins so much of one kind. */
    private static int[] wins(int kind, int n) {
        int[] won = new int[KINDS];
        won[kind] = n;
        return won;
    }

    // ---- promise 20

    private static void gainsOfNothing() {
        gains(Edge.begin(20, "there are no RULES"), "gains", false);
        gains(Edge.begin(20, "a RULE without IN and OUT", x -> x.rule(false)), "gains", false);
        gains(Edge.begin(20, "ten RULES without IN and OUT", x -> Edge.rules(x, 10)), "gains", false);
    }

    private static void gainsOfSources() {
        Tape alone = Edge.begin(20, "a SOURCE alone", x -> Edge.rule(x, true, 9, 9, 9, 9));
        gains(alone, "gains", false);
        Tape helped = Edge.begin(20, "a RULE that would gain with a SOURCE", x -> Edge.rule(x, true, 1));
        Edge.rule(helped, false, -1, 9);
        gains(helped, "gains", false);
        Tape beside = Edge.begin(20, "a RULE that gains beside a SOURCE", x -> Edge.rule(x, true, -9));
        Edge.rule(beside, false, 0, 1);
        gains(beside, "gains", true);
        for (int sources = 0; sources < 4; sources++) {
            Tape x = Edge.begin(20, "a ring of gain with the SOURCES " + Integer.toBinaryString(sources));
            Edge.rule(x, (sources & 1) == 1, -1, 1);
            Edge.rule(x, (sources & 2) == 2, 2, -1);
            gains(x, "gains", sources == 0);
        }
    }

    private static void gainsOfOneRule() {
        int[] outs = {3, 4, 5};
        for (int kind = 0; kind < KINDS; kind++) {
            for (int out : outs) {
                Tape x = Edge.begin(20, "IN 4 and OUT " + out + " of KIND " + kind, y -> y.rule(false));
                x.part(0, kind, false, 4);
                x.part(0, kind, true, out);
                gains(x, "gains", out > 4);
            }
            gains(Edge.begin(20, "IN alone of KIND " + kind, ruleThatWins(wins(kind, -1))), "gains", false);
            gains(Edge.begin(20, "OUT alone of KIND " + kind, ruleThatWins(wins(kind, 1))), "gains", true);
        }
    }

    private static Consumer<Tape> ruleThatWins(int... won) {
        return x -> Edge.rule(x, false, won);
    }

    private static void gainsOfOneKindLost() {
        for (int kind = 0; kind < KINDS; kind++) {
            int[] lost = {-1, 0, 1};
            for (int n : lost) {
                int[] won = {9, 9, 9, 9};
                won[kind] = n;
                gains(Edge.begin(20, "9 of the others for " + n + " of KIND " + kind, ruleThatWins(won)),
                        "gains", n >= 0);
            }
        }
        Tape beside = Edge.begin(20, "a RULE of loss need not be done", ruleThatWins(-9, -9, -9, -9));
        Edge.rule(beside, false, 0, 0, 0, 1);
        gains(beside, "gains", true);
        Tape back = Edge.begin(20, "what is lost is won back, and no more", ruleThatWins(3, -2));
        Edge.rule(back, false, -3, 2);
        gains(back, "gains", false);
    }

    private static void gainsRoundARing() {
        int[] outs = {4, 5, 6};
        for (int from = 0; from < KINDS; from++) {
            for (int out : outs) {
                Tape x = Edge.begin(20, "5 of KIND " + from + " round all KINDS, " + out + " come back");
                for (int step = 0; step < KINDS; step++) {
                    int rule = x.rule(false);
                    int kind = (from + step) % KINDS;
                    x.part(rule, kind, false, 5);
                    x.part(rule, (kind + 1) % KINDS, true, step == 3 ? out : 5);
                }
                gains(x, "gains", out > 5);
            }
        }
        Tape missing = Edge.begin(20, "a step of the ring is missing", ruleThatWins(-1, 9));
        Edge.rule(missing, false, 0, -1, 9);
        Edge.rule(missing, false, 9, 0, 0, -1);
        gains(missing, "gains", false);
        Edge.rule(missing, false, 0, 0, -9, 1);
        gains(missing, "gains, with it", true);
    }

    /** Round the ring 224 become 225 at the most, or 225 become 224. */
    private static void gainsByALittle() {
        Tape more = Edge.begin(20, "225 for 224");
        ring(more, new int[] {1, 8, 7, 4}, new int[] {1, 9, 5, 5});
        gains(more, "gains", true);
        Tape less = Edge.begin(20, "224 for 225");
        ring(less, new int[] {1, 9, 5, 5}, new int[] {1, 8, 7, 4});
        gains(less, "gains", false);
        Tape even = Edge.begin(20, "504 for 504");
        ring(even, new int[] {9, 8, 7, 1}, new int[] {6, 7, 4, 3});
        gains(even, "gains", false);
    }

    private static void ring(Tape x, int[] in, int[] out) {
        for (int kind = 0; kind < KINDS; kind++) {
            x.rule(false);
            x.part(kind, kind, false, in[kind]);
            x.part(kind, (kind + 1) % KINDS, true, out[kind]);
        }
    }

    /**
     * The inverse of these numbers is whole, and its first and last row are above 2300 everywhere: whatever is
     * won more, the first and the last rule are done that often. Each of its numbers is above 1, too, so that
     * with one less of anything more would be lost than is won.
     */
    private static void gainsByMoreThanThousandTimes() {
        int[][] won = {{-9, 8, -8, 8}, {9, -8, -9, 8}, {-9, -8, 8, 9}, {8, -7, 9, -9}};
        Tape x = Edge.begin(20, "only by more than 1000 times");
        for (int[] each : won) {
            Edge.rule(x, false, each);
        }
        gains(x, "gains", true);
        for (int rule = 0; rule < KINDS; rule++) {
            x.times(rule, 1000);
        }
        earns(x, "1000 times of each", false);
        for (int rule = 0; rule < KINDS; rule++) {
            for (int kind = 0; kind < KINDS; kind++) {
                if (won[rule][kind] == -9) {
                    continue;
                }
                Tape less = Edge.begin(20, "one less of KIND " + kind + " by RULE " + rule);
                won[rule][kind]--;
                for (int[] each : won) {
                    Edge.rule(less, false, each);
                }
                won[rule][kind]++;
                gains(less, "gains", false);
            }
        }
    }

    private static void gainsOfTenRules() {
        for (int last = 0; last < 10; last++) {
            Tape x = Edge.begin(20, "of ten RULES number " + last + " alone gains");
            for (int rule = 0; rule < 10; rule++) {
                Edge.rule(x, false, rule == last ? 1 : -1);
            }
            gains(x, "gains", true);
        }
        Tape pair = Edge.begin(20, "of ten RULES the first and the last gain together", ruleThatWins(-2, 3));
        for (int rule = 1; rule < 9; rule++) {
            Edge.rule(pair, false, -1, 0, 0, 1);
        }
        Edge.rule(pair, false, 2, -3);
        gains(pair, "2 for 2", false);
        pair.part(9, 1, false, 2);
        gains(pair, "one left over", true);
    }

    private static void gainsWhoeverHasWhat() {
        Tape x = Edge.begin(20, "nobody has anything, and there is nobody", ruleThatWins(-9, 9));
        Edge.rule(x, false, 9, -8);
        gains(x, "gains", true);
        Tape told = Edge.begin(20, "TIMES and WEIGHTS do not count", ruleThatWins(1));
        told.times(0, 0);
        weights(told, 1, 1, 1, 1);
        gains(told, "gains", true);
        told.part(0, 0, true, 0);
        gains(told, "gains, when it is told anew", false);
    }

    // ---- promises 21 and 22

    /** They earn just as long as the times of the three are alike and above 0. */
    private static void evenTimes(Tape x) {
        Edge.rule(x, false, -1, 1);
        Edge.rule(x, false, 0, -1, 1);
        Edge.rule(x, false, 1, 0, -1, 1);
        for (int rule = 0; rule < 3; rule++) {
            x.times(rule, 500);
        }
    }

    private static void timesNumbers() {
        Edge.numbered(21, "RULE", 3, HuntEdgesTest::evenTimes, (x, n) -> {
            x.times(n, 499);
            Check.same("earns", x.earns(), false);
        });
        Edge.numbered(21, "RULE of 10", 10, x -> Edge.rules(x, 10), (x, n) -> x.times(n, 1));
        Edge.range(21, "TIMES are 0 to 1000", 0, 1000, HuntEdgesTest::evenTimes, (x, n) -> {
            x.times(0, n);
            Check.same("of one", x.earns(), false);
            x.times(1, n);
            x.times(2, n);
            Check.same("of all", x.earns(), n > 0);
        });
        Tape order = Edge.begin(21, "no RULE ahead of a wrong number", HuntEdgesTest::evenTimes);
        Check.fails(order, "RULE 3, 1001", Edge.INDEX, () -> order.times(3, 1001));
        Check.fails(order, "RULE -1, -1", Edge.INDEX, () -> order.times(-1, -1));
        Tape none = Edge.begin(21, "there are no RULES");
        Check.fails(none, "times(0, 0)", Edge.INDEX, () -> none.times(0, 0));
    }

    private static void timesToldAnew() {
        Tape first = Edge.begin(21, "they are 0 at first", ruleThatWins(1));
        earns(first, "earns", false);
        first.times(0, 1);
        earns(first, "earns, with 1", true);
        Tape anew = Edge.begin(21, "told anew they replace what was told", HuntEdgesTest::evenTimes);
        anew.times(1, 1000);
        earns(anew, "1000", false);
        anew.times(1, 500);
        earns(anew, "500", true);
    }

    private static void earnsOfNothing() {
        earns(Edge.begin(22, "there are no RULES"), "earns", false);
        Tape zero = Edge.begin(22, "all TIMES are 0", ruleThatWins(9, 9, 9, 9));
        earns(zero, "earns", false);
        Tape empty = Edge.begin(22, "a RULE without IN and OUT", x -> x.rule(false));
        empty.times(0, 1000);
        earns(empty, "earns", false);
    }

    private static void earnsOfSources() {
        Tape alone = Edge.begin(22, "a SOURCE alone", x -> Edge.rule(x, true, 1));
        alone.times(0, 1000);
        earns(alone, "earns", false);
        Tape more = Edge.begin(22, "a SOURCE does not make up for a loss", x -> Edge.rule(x, true, 9));
        Edge.rule(more, false, -1, 1);
        more.times(0, 1000);
        more.times(1, 1);
        earns(more, "earns", false);
        Tape less = Edge.begin(22, "a SOURCE does not take away", x -> Edge.rule(x, true, -9));
        Edge.rule(less, false, 1);
        less.times(0, 1000);
        less.times(1, 1);
        earns(less, "earns", true);
    }

    private static void earnsByOne() {
        int[] numbers = {2, 3, 4};
        for (int n : numbers) {
            Tape x = Edge.begin(22, "6 are spent, " + n + " times 2 come back", ruleThatWins(-3, 1));
            Edge.rule(x, false, 2);
            x.times(0, 2);
            x.times(1, n);
            earns(x, "earns", n >= 3);
        }
        Tape even = Edge.begin(22, "as much as before of each KIND, and of none more", ruleThatWins(-3, 2));
        Edge.rule(even, false, 3, -2);
        even.times(0, 7);
        even.times(1, 7);
        earns(even, "earns", false);
        even.part(1, 0, true, 4);
        earns(even, "one more each time", true);
        even.part(1, 0, true, 2);
        earns(even, "one less each time", false);
    }

    private static void earnsOfEachKind() {
        int[] numbers = {-1, 0, 1};
        for (int kind = 0; kind < KINDS; kind++) {
            for (int n : numbers) {
                Tape alone = Edge.begin(22, n + " of KIND " + kind + " alone", ruleThatWins(wins(kind, n)));
                alone.times(0, 1);
                earns(alone, "earns", n > 0);
                int[] won = {9, 9, 9, 9};
                won[kind] = n;
                Tape x = Edge.begin(22, n + " of KIND " + kind + ", 9 of the others", ruleThatWins(won));
                x.times(0, 1);
                earns(x, "earns", n >= 0);
            }
        }
    }

    private static void earnsByThousandTimes() {
        int[] numbers = {999, 1000};
        for (int n : numbers) {
            Tape x = Edge.begin(22, "five RULES of 9 spent 1000 times, five won, one of them " + n + " times");
            for (int rule = 0; rule < 10; rule++) {
                Edge.rule(x, false, rule < 5 ? -9 : 9, rule < 5 ? 1 : 0);
                x.times(rule, 1000);
            }
            x.times(9, n);
            earns(x, "earns", n == 1000);
        }
    }

    // ---- promises 23 and 24

    /** They bar just as long as two of kind 1 weigh as three of kind 0, and kinds 1, 2 and 3 alike. */
    private static void evenWeights(Tape x) {
        int[][] won = {{-3, 2}, {3, -2}, {0, -1, 1}, {0, 1, -1}, {0, 0, -1, 1}, {0, 0, 1, -1}};
        for (int[] each : won) {
            Edge.rule(x, false, each);
        }
        weights(x, 2, 3, 3, 3);
    }

    private static void weighNumbers() {
        Edge.numbered(23, "KIND", KINDS, HuntEdgesTest::evenWeights, (x, n) -> {
            Check.same("bars", x.bars(), true);
            x.weigh(n, 4);
            Check.same("bars, when one is told anew", x.bars(), false);
        });
        Edge.range(23, "WEIGHT is 0 to 1000", 0, 1000, HuntEdgesTest::evenWeights, (x, n) -> {
            x.weigh(3, n);
            Check.same("bars, with one told anew", x.bars(), false);
            x.weigh(2, n);
            x.weigh(1, n);
            x.part(0, 1, true, 0);
            x.part(1, 0, true, 0);
            Check.same("bars", x.bars(), n > 0);
        });
        Tape order = Edge.begin(23, "no KIND ahead of a wrong number", HuntEdgesTest::evenWeights);
        Check.fails(order, "KIND 4, 1001", Edge.INDEX, () -> order.weigh(4, 1001));
        Check.fails(order, "KIND -1, -1", Edge.INDEX, () -> order.weigh(-1, -1));
        Tape anew = Edge.begin(23, "told anew it replaces what was told", HuntEdgesTest::evenWeights);
        anew.weigh(0, 1000);
        bars(anew, "1000", false);
        anew.weigh(0, 2);
        bars(anew, "2", true);
    }

    private static void barsOfWeights() {
        bars(Edge.begin(24, "all WEIGHTS are 0 at first"), "bars", false);
        for (int kind = 0; kind < KINDS; kind++) {
            for (int n = 0; n <= 1; n++) {
                Tape x = Edge.begin(24, "WEIGHT of KIND " + kind + " is " + n);
                weights(x, 1000, 1000, 1000, 1000);
                x.weigh(kind, n);
                bars(x, "bars", n > 0);
            }
            Tape alone = Edge.begin(24, "KIND " + kind + " alone has a WEIGHT");
            alone.weigh(kind, 1000);
            bars(alone, "bars", false);
        }
        Tape empty = Edge.begin(24, "a RULE without IN and OUT", x -> x.rule(false));
        weights(empty, 1, 1, 1, 1);
        bars(empty, "bars", true);
    }

    private static void barsByOne() {
        int[] numbers = {5, 6, 7};
        for (int kind = 1; kind < KINDS; kind++) {
            for (int n : numbers) {
                int[] won = wins(kind, n);
                won[0] = -3;
                Tape x = Edge.begin(24, "IN weighs 6, OUT of KIND " + kind + " " + n, ruleThatWins(won));
                weights(x, 2, 1, 1, 1);
                bars(x, "bars", n <= 6);
                gains(x, "there is no GAIN", false);
            }
        }
        int[] outs = {3, 4, 5};
        for (int out : outs) {
            Tape x = Edge.begin(24, "IN 4 and OUT " + out + " of one KIND", y -> y.rule(false));
            x.part(0, 2, false, 4);
            x.part(0, 2, true, out);
            weights(x, 1, 1, 1, 1);
            bars(x, "bars", out <= 4);
        }
    }

    private static void barsOfSources() {
        Tape source = Edge.begin(24, "OUT of a SOURCE weighs more", x -> Edge.rule(x, true, 9, 9, 9, 9));
        weights(source, 1, 1, 1, 1);
        bars(source, "bars", true);
        Tape rule = Edge.begin(24, "OUT of a RULE beside a SOURCE weighs more", x -> Edge.rule(x, true, -9));
        Edge.rule(rule, false, 1);
        weights(rule, 1, 1, 1, 1);
        bars(rule, "bars", false);
    }

    private static void barsOfEachRule() {
        for (int heavy = 0; heavy < 10; heavy++) {
            Tape x = Edge.begin(24, "of ten RULES number " + heavy + " alone weighs more");
            for (int rule = 0; rule < 10; rule++) {
                Edge.rule(x, false, -1, rule == heavy ? 2 : 1);
            }
            weights(x, 1, 1, 1, 1);
            bars(x, "bars", false);
            x.part(heavy, 1, true, 1);
            bars(x, "bars, when it does not", true);
        }
    }

    private static void barsByThousand() {
        int[] numbers = {999, 1000};
        for (int n : numbers) {
            Tape x = Edge.begin(24, "27 of 1000 for 27, of which 9 weigh " + n, y -> y.rule(false));
            for (int kind = 0; kind < KINDS; kind++) {
                x.part(0, kind, true, kind == 0 ? 0 : 9);
                x.part(0, kind, false, kind == 3 ? 0 : 9);
            }
            weights(x, n, 1000, 1000, 1000);
            bars(x, "bars", n == 1000);
        }
    }

    // ---- promise 25

    private static void countNumbers() {
        int[] others = {-1, 9, Integer.MIN_VALUE, Integer.MAX_VALUE};
        for (int what : others) {
            Tape x = Edge.begin(25, "what " + what + " is another what: NONE", y -> Edge.players(y, 2));
            Check.idle(x, "count", -1, () -> x.count(what));
        }
        for (int what = 0; what <= 8; what++) {
            Tape x = Edge.begin(25, "what " + what + " is 0 at first");
            Check.same("count", x.count(what), 0);
        }
        for (int players = 9; players <= 10; players++) {
            Tape x = Edge.begin(25, players + " PLAYERS");
            Edge.players(x, players);
            Check.same("count(1)", x.count(1), players);
        }
        for (int rules = 9; rules <= 10; rules++) {
            Tape x = Edge.begin(25, rules + " RULES, SOURCES among them", y -> y.rule(true));
            Edge.rules(x, rules - 1);
            Check.same("count(2)", x.count(2), rules);
        }
        for (int singles = 39; singles <= 40; singles++) {
            Tape x = Edge.begin(25, singles + " SINGLES", y -> y.player());
            Edge.singles(x, 0, singles, 0);
            Check.same("count(3)", x.count(3), singles);
        }
        for (int offers = 59; offers <= 60; offers++) {
            Tape x = Edge.begin(25, offers + " OFFERS", y -> Edge.players(y, 2));
            for (int i = 0; i < offers; i++) {
                x.offer(0, 1, 0, 0, -1, 0, 0, -1);
            }
            Check.same("count(6)", x.count(6), offers);
            Check.same("count(7)", x.count(7), offers);
        }
    }

    private static void countDays() {
        Tape x = Edge.begin(25, "TODAY behind 0, 1 and 1000 days");
        x.days(0);
        Check.same("count(0)", x.count(0), 0);
        x.days(1);
        Check.same("count(0)", x.count(0), 1);
        x.days(1000);
        Check.same("count(0)", x.count(0), 1001);
    }

    private static void countBrokenAndLent() {
        Tape broken = Edge.begin(25, "BROKEN ones at 99 and at 100, SINGLES still", x -> x.player());
        Edge.singles(broken, 0, 3, 0);
        broken.wear(1, 99);
        Check.same("count(4) at 99", broken.count(4), 0);
        broken.wear(1, 1);
        Check.same("count(4) at 100", broken.count(4), 1);
        broken.wear(1, 1);
        Check.same("count(4) behind that", broken.count(4), 1);
        Check.same("count(3)", broken.count(3), 3);
        broken.wear(0, 100);
        broken.wear(2, 100);
        Check.same("count(4) of all", broken.count(4), 3);

        Tape lent = Edge.begin(25, "LENT ones: those alone that are LENT, up to their day", x -> Edge.players(x, 2));
        Edge.singles(lent, 0, 3, 1);
        lent.put(1, 0);
        lent.lend(0, 1, 2);
        Check.same("count(5) of one with another within", lent.count(5), 1);
        lent.lend(2, 1, 3);
        Check.same("count(5) of two", lent.count(5), 2);
        lent.days(1);
        Check.same("count(5) a day ahead", lent.count(5), 2);
        lent.days(1);
        Check.same("count(5) on the first day", lent.count(5), 1);
        lent.wear(2, 100);
        Check.same("count(5) when the other is BROKEN", lent.count(5), 0);
    }

    private static void countOffers() {
        Tape x = Edge.begin(25, "OFFERS that are open", y -> Edge.players(y, 2));
        for (int i = 0; i < 3; i++) {
            x.offer(0, 1, i == 2 ? 1 : 0, 0, -1, 0, 0, -1);
        }
        x.agree(0);
        Check.same("count(7), one agreed to", x.count(7), 2);
        x.withdraw(1);
        Check.same("count(7), one withdrawn", x.count(7), 1);
        x.agree(2);
        Check.same("count(7), one refused", x.count(7), 1);
        x.withdraw(2);
        Check.same("count(7), none", x.count(7), 0);
        Check.same("count(6)", x.count(6), 3);
    }

    private static void countDeeds() {
        Tape x = Edge.begin(25, "DEEDS that were done, and no others", y -> Edge.players(y, 2));
        Edge.rule(x, true, 1);
        Edge.rule(x, false, -1);
        x.deed(0, 1, 1, 1);
        Check.same("count(8), too few", x.count(8), 0);
        x.deed(0, 2, 0, 1000);
        Check.same("count(8), done 1000 times", x.count(8), 1);
        x.deed(0, 2, 0, 1000);
        Check.same("count(8), sent again", x.count(8), 1);
        x.deed(0, 4, 0, 1);
        Check.same("count(8), a wrong number", x.count(8), 1);
        x.deed(1, 1, 0, 1);
        Check.same("count(8), another PLAYER", x.count(8), 2);
    }
}
