import java.util.Random;

/** Promises 20 to 24: gains, times, earns, weigh, bars. */
public final class HuntTest {
    private static final Class<IndexOutOfBoundsException> INDEX = IndexOutOfBoundsException.class;
    private static final Class<IllegalArgumentException> ARGUMENT = IllegalArgumentException.class;
    private static final int KINDS = 4;

    public static void main(String[] args) {
        noRules();
        sourcesAreLeftAside();
        roundTrip();
        gainNeedsNoLoss();
        manyTimes();
        longWay();
        timesAreTold();
        weightsAreTold();
        barring();
        againstAllBases();
        Check.end();
    }

    private static void noRules() {
        Tape x = new Tape();
        Check.same("gains", x.gains(), false);
        Check.same("earns", x.earns(), false);
        Check.same("bars", x.bars(), false);
        x.rule(false);
        Check.same("a rule of nothing gains", x.gains(), false);
        x.times(0, 5);
        Check.same("a rule of nothing earns", x.earns(), false);
    }

    private static void sourcesAreLeftAside() {
        Tape x = new Tape();
        Edge.rule(x, true, 1, 1, 1, 1);
        x.times(0, 1000);
        for (int kind = 0; kind < KINDS; kind++) {
            x.weigh(kind, 1);
        }
        Check.same("gains", x.gains(), false);
        Check.same("earns", x.earns(), false);
        Check.same("bars", x.bars(), true);
        Edge.rule(x, false, 0, 0, 0, 1);
        Check.same("gains then", x.gains(), true);
        Check.same("earns not", x.earns(), false);
        Check.same("bars not", x.bars(), false);
        x.times(1, 1);
        Check.same("earns then", x.earns(), true);
    }

    private static void roundTrip() {
        Tape x = new Tape();
        Edge.rule(x, false, -2, 3);
        Check.same("one way", x.gains(), false);
        Edge.rule(x, false, 2, -3);
        Check.same("there and back", x.gains(), false);
        x.part(1, 2, true, 1);
        Check.same("with something over", x.gains(), true);
        x.part(1, 2, true, 0);
        x.part(1, 1, false, 2);
        Check.same("a price too low", x.gains(), true);
        x.part(1, 1, false, 4);
        Check.same("a price too high", x.gains(), false);
        x.part(1, 1, true, 2);
        Check.same("IN less OUT counts", x.gains(), true);
    }

    private static void gainNeedsNoLoss() {
        Tape x = new Tape();
        Edge.rule(x, false, 9, 9, 9, -1);
        Check.same("one kind is lost", x.gains(), false);
        Edge.rule(x, false, -9, -9, -9, 1);
        Check.same("won back at the same price", x.gains(), false);
        x.part(1, 0, false, 8);
        Check.same("a little over", x.gains(), true);
    }

    /** One of the last is worth 729 of the first: the only gain is a small one, after many times. */
    private static void manyTimes() {
        Tape x = new Tape();
        Edge.rule(x, false, -9, 1, 0, 0);
        Edge.rule(x, false, 0, -9, 1, 0);
        Edge.rule(x, false, 0, 0, -9, 1);
        int back = Edge.rule(x, false, 8, 8, 8, -1);
        Check.same("728 for 729", x.gains(), false);
        x.part(back, 0, true, 9);
        Check.same("729 for 729", x.gains(), false);
        Edge.rule(x, false, 9, -1, 0, 0);
        Edge.rule(x, false, 0, 9, -1, 0);
        Edge.rule(x, false, 0, 0, 9, -1);
        Check.same("there and back at every step", x.gains(), false);
        x.part(back, 1, true, 9);
        x.part(back, 0, true, 1);
        Check.same("730 for 729", x.gains(), true);
        x.part(back, 0, true, 0);
        Check.same("729 for 729 once more", x.gains(), false);
    }

    private static void longWay() {
        Tape x = new Tape();
        Edge.rule(x, false, -7, 8, 0, 0);
        Edge.rule(x, false, 0, -8, 9, 0);
        Edge.rule(x, false, 0, 0, -9, 5);
        int back = Edge.rule(x, false, 7, 0, 0, -5);
        Check.same("a ring without gain", x.gains(), false);
        x.part(back, 3, false, 4);
        Check.same("a ring with gain", x.gains(), true);
        x.part(back, 3, false, 6);
        Check.same("a ring with loss", x.gains(), false);
    }

    private static void timesAreTold() {
        Tape x = new Tape();
        Edge.rule(x, false, -2, 3);
        Edge.rule(x, false, 2, -2);
        x.times(0, 1);
        Check.same("half of it", x.earns(), false);
        x.times(1, 1);
        Check.same("both", x.earns(), true);
        x.times(0, 2);
        x.times(1, 3);
        Check.same("nothing lost, nothing more of the other", x.earns(), true);
        x.times(1, 4);
        Check.same("too often", x.earns(), false);
        x.times(0, 0);
        x.times(1, 0);
        Check.same("none", x.earns(), false);
        x.times(0, 1000);
        x.times(1, 1000);
        Check.same("the most", x.earns(), true);
        Check.fails(x, "times of rule 2", INDEX, () -> x.times(2, 0));
        Check.fails(x, "times of rule -1", INDEX, () -> x.times(-1, 0));
        Check.fails(x, "times -1", ARGUMENT, () -> x.times(0, -1));
        Check.fails(x, "times 1001", ARGUMENT, () -> x.times(0, 1001));
        Check.fails(x, "index ahead of argument", INDEX, () -> x.times(2, 1001));
        x.part(1, 1, false, 3);
        Check.same("just even", x.earns(), false);
    }

    private static void weightsAreTold() {
        Tape x = new Tape();
        for (int kind = 0; kind < KINDS; kind++) {
            Check.same("not all above 0", x.bars(), false);
            x.weigh(kind, 1000);
        }
        Check.same("all above 0, no rules", x.bars(), true);
        Check.fails(x, "weigh kind 4", INDEX, () -> x.weigh(4, 1));
        Check.fails(x, "weigh kind -1", INDEX, () -> x.weigh(-1, 1));
        Check.fails(x, "weigh -1", ARGUMENT, () -> x.weigh(0, -1));
        Check.fails(x, "weigh 1001", ARGUMENT, () -> x.weigh(0, 1001));
        Check.fails(x, "index ahead of argument", INDEX, () -> x.weigh(4, 1001));
        for (int kind = 0; kind < KINDS; kind++) {
            x.weigh(kind, 0);
            Check.same("one of 0", x.bars(), false);
            x.weigh(kind, 1);
        }
        Check.same("all of 1", x.bars(), true);
    }

    private static void barring() {
        Tape x = new Tape();
        Edge.rule(x, false, -2, 3);
        x.weigh(0, 3);
        x.weigh(1, 2);
        x.weigh(2, 1);
        x.weigh(3, 1);
        Check.same("OUT weighs as much", x.bars(), true);
        x.weigh(1, 3);
        Check.same("OUT weighs more", x.bars(), false);
        Check.same("though there is no gain", x.gains(), false);
        x.weigh(0, 1000);
        x.weigh(1, 666);
        Check.same("OUT weighs less", x.bars(), true);
        Edge.rule(x, false, 2, -3);
        Check.same("the way back weighs more", x.bars(), false);
        x.weigh(1, 667);
        Check.same("now the way there does", x.bars(), false);
        x.weigh(0, 999);
        x.weigh(1, 666);
        Check.same("both even", x.bars(), true);
    }

    /** Random rules, many of them near a balance, against a slow way that tries every basis. */
    private static void againstAllBases() {
        Random random = new Random(20261116);
        int found = 0;
        int rounds = 6000;
        for (int round = 0; round < rounds; round++) {
            int rules = 1 + random.nextInt(round % 10 == 0 ? 10 : 6);
            int[][] won = randomRules(random, rules, round % 4);
            Tape x = new Tape();
            for (int[] each : won) {
                boolean source = random.nextInt(8) == 0;
                Edge.rule(x, source, each);
                if (source) {
                    java.util.Arrays.fill(each, 0);
                }
            }
            boolean due = gainsByBases(won);
            found += due ? 1 : 0;
            boolean got = x.gains();
            if (got != due || x.gains() != due) {
                Check.note("gains() answered " + got + " for " + java.util.Arrays.deepToString(won));
            }
        }
        if (found < rounds / 5 || found > rounds * 4 / 5) {
            Check.note("the random rules are lopsided: " + found + " of " + rounds + " gain");
        }
    }

    private static int[][] randomRules(Random random, int rules, int style) {
        int[][] won = new int[rules][KINDS];
        int[] prices = {1 + random.nextInt(3), 1 + random.nextInt(4), 1 + random.nextInt(5), 1 + random.nextInt(6)};
        for (int[] each : won) {
            int worth = 0;
            for (int kind = 0; kind < KINDS; kind++) {
                each[kind] = random.nextInt(style == 0 ? 3 : 2) == 0 ? 0 : random.nextInt(19) - 9;
                worth += each[kind] * prices[kind];
            }
            if (style >= 2) {
                int rest = each[0] - Math.floorDiv(worth + prices[0] - 1, prices[0]);
                each[0] = Math.max(-9, Math.min(9, rest));
            }
            if (style == 3 && random.nextInt(10) == 0 && each[1] < 9) {
                each[1]++;
            }
        }
        return won;
    }

    /**
     * A gain, scaled so that all that is won sums up to 1, is a point of a polyhedron in the times and the
     * winnings with 5 equations; if there is one, there is one with 5 independent columns and the rest 0.
     */
    private static boolean gainsByBases(int[][] won) {
        int columns = won.length + KINDS;
        long[][] all = new long[columns][KINDS + 1];
        for (int j = 0; j < columns; j++) {
            for (int kind = 0; kind < KINDS; kind++) {
                all[j][kind] = j < won.length ? won[j][kind] : (j - won.length == kind ? -1 : 0);
            }
            all[j][KINDS] = j < won.length ? 0 : 1;
        }
        for (int set = 0; set < 1 << columns; set++) {
            if (Integer.bitCount(set) == KINDS + 1 && isSolution(all, set)) {
                return true;
            }
        }
        return false;
    }

    /** Cramer's rule: the chosen columns, times numbers of 0 or more, make (0, 0, 0, 0, 1). */
    private static boolean isSolution(long[][] all, int set) {
        long[][] chosen = new long[KINDS + 1][];
        int size = 0;
        for (int j = 0; j < all.length; j++) {
            if ((set >> j & 1) == 1) {
                chosen[size++] = all[j];
            }
        }
        long whole = determinant(chosen);
        if (whole == 0) {
            return false;
        }
        long[] due = {0, 0, 0, 0, 1};
        for (int j = 0; j <= KINDS; j++) {
            long[] kept = chosen[j];
            chosen[j] = due;
            long part = determinant(chosen);
            chosen[j] = kept;
            if (Long.signum(part) * Long.signum(whole) < 0) {
                return false;
            }
        }
        return true;
    }

    private static long determinant(long[][] m) {
        return determinant(m, 0, 0);
    }

    /** Expands by rows: taken are the columns that are used already. */
    private static long determinant(long[][] m, int row, int taken) {
        if (row == m.length) {
            return 1;
        }
        long sum = 0;
        int sign = 1;
        for (int column = 0; column < m.length; column++) {
            if ((taken >> column & 1) == 1) {
                continue;
            }
            if (m[row][column] != 0) {
                sum += sign * m[row][column] * determinant(m, row + 1, taken | 1 << column);
            }
            sign = -sign;
        }
        return sum;
    }
}
