import java.util.ArrayList;
import java.util.NoSuchElementException;

/** Keeps a game's goods, single things and trades, and hunts for rules that gain from nothing. */
public final class GoodsKeeper {
    public static final int NONE = -1;

    private static final int KINDS = 4;
    private static final int MOST_PLAYERS = 10;
    private static final int MOST_RULES = 10;
    private static final int MOST_SINGLES = 40;
    private static final int MOST_OFFERS = 60;
    private static final int MOST_GOODS = 1000000000;
    private static final int MOST_PART = 9;
    private static final int MOST_TIMES = 1000;
    private static final int MOST_WEIGHT = 1000;
    private static final int MOST_ROOM = 8;
    private static final int MOST_WEAR = 100;
    private static final int MOST_DAYS = 1000;
    private static final int MOST_OFFERED = 1000000;
    private static final int KEPT_OF_LINE = 30;

    private static final int DONE = 0;
    private static final int TOO_FEW = 1;
    private static final int TOO_MANY = 2;
    private static final int WRONG_NUMBER = 3;

    private final ArrayList<Player> players = new ArrayList<>();
    private final ArrayList<Rule> rules = new ArrayList<>();
    private final ArrayList<Offer> offers = new ArrayList<>();
    private final Things things = new Things();
    private final Hunt hunt = new Hunt();
    private final int[] weights = new int[KINDS];
    private final long[] allMade = new long[KINDS];
    private final long[] allBroken = new long[KINDS];
    private int deedsDone;
    private int today;

    public GoodsKeeper() {
    }

    // ---- players, rules and deeds

    public int player() throws UnsupportedOperationException {
        int number = players.size();
        if (number >= MOST_PLAYERS) {
            throw new UnsupportedOperationException("there are 10 players");
        }
        players.add(new Player(number));
        return number;
    }

    public int rule(boolean source) throws UnsupportedOperationException {
        int number = rules.size();
        if (number >= MOST_RULES) {
            throw new UnsupportedOperationException("there are 10 rules");
        }
        rules.add(new Rule(source));
        return number;
    }

    public void part(int rule, int kind, boolean out, int n)
            throws IndexOutOfBoundsException, IllegalArgumentException {
        Rule told = ruleAt(rule);
        checkKind(kind);
        checkRange(n, 0, MOST_PART);
        if (out) {
            told.out[kind] = n;
        } else {
            told.in[kind] = n;
        }
    }

    public int deed(int player, int number, int rule, int times)
            throws IndexOutOfBoundsException, IllegalArgumentException {
        Player doer = playerAt(player);
        Rule told = ruleAt(rule);
        checkRange(times, 1, MOST_TIMES);
        if (doer.latestDeed > 0 && number == doer.latestDeed) {
            return doer.latestAnswer;
        }
        if (number != doer.latestDeed + 1) {
            return WRONG_NUMBER;
        }
        int answer = doer.answerTo(told, times);
        doer.latestDeed = number;
        doer.latestAnswer = answer;
        if (answer == DONE) {
            carryOut(doer, told, times);
        }
        return answer;
    }

    public int has(int player, int kind) throws IndexOutOfBoundsException {
        Player owner = playerAt(player);
        checkKind(kind);
        return owner.goods[kind];
    }

    public long sum(int kind, boolean broken) throws IndexOutOfBoundsException {
        checkKind(kind);
        return broken ? allBroken[kind] : allMade[kind];
    }

    private void carryOut(Player doer, Rule told, int times) {
        for (int kind = 0; kind < KINDS; kind++) {
            int taken = told.in[kind] * times;
            int given = told.out[kind] * times;
            doer.goods[kind] += given - taken;
            allBroken[kind] += taken;
            allMade[kind] += given;
        }
        deedsDone++;
    }

    // ---- singles

    public int single(int player, boolean bound, int room)
            throws IndexOutOfBoundsException, IllegalArgumentException, UnsupportedOperationException {
        Player owner = playerAt(player);
        checkRange(room, 0, MOST_ROOM);
        int number = things.size();
        if (number >= MOST_SINGLES) {
            throw new UnsupportedOperationException("there are 40 singles");
        }
        Single made = new Single(number, bound, room);
        made.passTo(owner, today);
        things.add(made);
        return number;
    }

    public boolean put(int single, int into) throws IndexOutOfBoundsException {
        Single inner = things.at(single);
        Single outer = things.at(into);
        if (!things.mayLieIn(inner, outer)) {
            return false;
        }
        inner.holder = outer;
        return true;
    }

    public boolean take(int single) throws IndexOutOfBoundsException {
        Single inner = things.at(single);
        if (inner.holder == null) {
            return false;
        }
        inner.holder = null;
        return true;
    }

    public boolean give(int single, int to) throws IndexOutOfBoundsException {
        Single given = things.at(single);
        Player taker = playerAt(to);
        if (given.owner == taker || !things.mayLeave(given)) {
            return false;
        }
        things.passOn(given, taker, today);
        return true;
    }

    public boolean lend(int single, int to, int day) throws IndexOutOfBoundsException {
        Single lent = things.at(single);
        Player borrower = playerAt(to);
        if (day <= today || lent.owner == borrower || !things.mayLeave(lent)) {
            return false;
        }
        lent.lender = lent.owner;
        lent.lentUntil = day;
        things.passOn(lent, borrower, today);
        return true;
    }

    public int wear(int single, int n) throws IndexOutOfBoundsException, IllegalArgumentException {
        Single worn = things.at(single);
        checkRange(n, 1, MOST_WEAR);
        if (worn.isBroken()) {
            return NONE;
        }
        worn.wear = Math.min(worn.wear + n, MOST_WEAR);
        if (worn.wear == MOST_WEAR) {
            things.breakUp(worn);
        }
        return worn.wear;
    }

    public int days(int n) throws IllegalArgumentException {
        checkRange(n, 0, MOST_DAYS);
        today += n;
        things.bringBack(today);
        return today;
    }

    public int look(int single, int what) throws IndexOutOfBoundsException, NoSuchElementException {
        Single seen = things.at(single);
        switch (what) {
            case 0:
                return numberOf(seen.owner);
            case 1:
                return seen.holder == null ? NONE : seen.holder.number;
            case 2:
                return seen.wear;
            case 3:
                return things.rightWithin(seen);
            case 4:
                return things.allWithin(seen);
            case 5:
                return seen.isLent() ? 1 : 0;
            case 6:
                return seen.lentUntil;
            case 7:
                return numberOf(seen.lender);
            case 8:
                return seen.lineLength;
            default:
                throw new NoSuchElementException("what is not 0 to 8");
        }
    }

    public int line(int single, int k, boolean day) throws IndexOutOfBoundsException {
        Single seen = things.at(single);
        if (k < 0 || k >= seen.lineLength || k >= KEPT_OF_LINE) {
            return NONE;
        }
        return day ? seen.lineDays[k] : seen.linePlayers[k];
    }

    // ---- offers

    public int offer(int a, int b, int many, int kind, int single, int forMany, int forKind, int forSingle)
            throws IndexOutOfBoundsException, IllegalArgumentException, UnsupportedOperationException {
        // Both sides are looked up first: a missing player, kind or single is told ahead of a wrong number.
        Side first = sideOf(a, many, kind, single);
        Side second = sideOf(b, forMany, forKind, forSingle);
        if (a == b) {
            throw new IllegalArgumentException("the players are one");
        }
        checkRange(many, 0, MOST_OFFERED);
        checkRange(forMany, 0, MOST_OFFERED);
        int number = offers.size();
        if (number >= MOST_OFFERS) {
            throw new UnsupportedOperationException("there are 60 offers");
        }
        offers.add(new Offer(first, second));
        return number;
    }

    public int agree(int offer) throws IndexOutOfBoundsException {
        Offer told = offerAt(offer);
        int answer = answerTo(told);
        if (answer == DONE) {
            trade(told.first, told.second);
            told.open = false;
        }
        return answer;
    }

    public boolean withdraw(int offer) throws IndexOutOfBoundsException {
        Offer told = offerAt(offer);
        boolean wasOpen = told.open;
        told.open = false;
        return wasOpen;
    }

    private Side sideOf(int player, int many, int kind, int single) {
        Player giver = playerAt(player);
        checkKind(kind);
        Single thing = single == NONE ? null : things.at(single);
        return new Side(giver, many, kind, thing);
    }

    private int answerTo(Offer told) {
        Side a = told.first;
        Side b = told.second;
        if (!told.open) {
            return 1;
        }
        if (a.hasTooFew()) {
            return 2;
        }
        if (b.hasTooFew()) {
            return 3;
        }
        if (a.wouldHaveTooMany(b)) {
            return 4;
        }
        if (b.wouldHaveTooMany(a)) {
            return 5;
        }
        if (!mayHandOver(a)) {
            return 6;
        }
        if (!mayHandOver(b)) {
            return 7;
        }
        return a.isWornSince() || b.isWornSince() ? 8 : DONE;
    }

    private boolean mayHandOver(Side side) {
        return side.thing == null || side.thing.owner == side.giver && things.mayLeave(side.thing);
    }

    private void trade(Side a, Side b) {
        a.giver.goods[a.kind] -= a.many;
        b.giver.goods[b.kind] -= b.many;
        a.giver.goods[b.kind] += b.many;
        b.giver.goods[a.kind] += a.many;
        if (a.thing != null) {
            things.passOn(a.thing, b.giver, today);
        }
        if (b.thing != null) {
            things.passOn(b.thing, a.giver, today);
        }
    }

    // ---- the hunt

    public boolean gains() {
        hunt.begin();
        for (int i = 0; i < rules.size(); i++) {
            Rule rule = rules.get(i);
            if (!rule.source) {
                hunt.enter(rule);
            }
        }
        return hunt.findsGain();
    }

    public void times(int rule, int n) throws IndexOutOfBoundsException, IllegalArgumentException {
        Rule told = ruleAt(rule);
        checkRange(n, 0, MOST_TIMES);
        told.times = n;
    }

    public boolean earns() {
        boolean more = false;
        for (int kind = 0; kind < KINDS; kind++) {
            int won = wonByTimes(kind);
            if (won < 0) {
                return false;
            }
            more = more || won > 0;
        }
        return more;
    }

    public void weigh(int kind, int n) throws IndexOutOfBoundsException, IllegalArgumentException {
        checkKind(kind);
        checkRange(n, 0, MOST_WEIGHT);
        weights[kind] = n;
    }

    public boolean bars() {
        for (int kind = 0; kind < KINDS; kind++) {
            if (weights[kind] == 0) {
                return false;
            }
        }
        for (int i = 0; i < rules.size(); i++) {
            Rule rule = rules.get(i);
            if (!rule.source && weightWonBy(rule) > 0) {
                return false;
            }
        }
        return true;
    }

    private int wonByTimes(int kind) {
        int won = 0;
        for (int i = 0; i < rules.size(); i++) {
            Rule rule = rules.get(i);
            if (!rule.source) {
                won += rule.times * rule.won(kind);
            }
        }
        return won;
    }

    private int weightWonBy(Rule rule) {
        int won = 0;
        for (int kind = 0; kind < KINDS; kind++) {
            won += weights[kind] * rule.won(kind);
        }
        return won;
    }

    // ---- counts

    public int count(int what) {
        switch (what) {
            case 0:
                return today;
            case 1:
                return players.size();
            case 2:
                return rules.size();
            case 3:
                return things.size();
            case 4:
                return things.countBroken();
            case 5:
                return things.countLent();
            case 6:
                return offers.size();
            case 7:
                return countOpen();
            case 8:
                return deedsDone;
            default:
                return NONE;
        }
    }

    private int countOpen() {
        int open = 0;
        for (int i = 0; i < offers.size(); i++) {
            if (offers.get(i).open) {
                open++;
            }
        }
        return open;
    }

    // ---- what a call's numbers stand for

    private Player playerAt(int number) {
        if (number < 0 || number >= players.size()) {
            throw new IndexOutOfBoundsException("there is no such player");
        }
        return players.get(number);
    }

    private Rule ruleAt(int number) {
        if (number < 0 || number >= rules.size()) {
            throw new IndexOutOfBoundsException("there is no such rule");
        }
        return rules.get(number);
    }

    private Offer offerAt(int number) {
        if (number < 0 || number >= offers.size()) {
            throw new IndexOutOfBoundsException("there is no such offer");
        }
        return offers.get(number);
    }

    private static void checkKind(int kind) {
        if (kind < 0 || kind >= KINDS) {
            throw new IndexOutOfBoundsException("there is no such kind");
        }
    }

    private static void checkRange(int n, int least, int most) {
        if (n < least || n > most) {
            throw new IllegalArgumentException("a number is out of its range");
        }
    }

    private static int numberOf(Player player) {
        return player == null ? NONE : player.number;
    }

    private static final class Player {
        final int number;
        final int[] goods = new int[KINDS];
        int latestDeed;
        int latestAnswer;

        Player(int number) {
            this.number = number;
        }

        int answerTo(Rule told, int times) {
            for (int kind = 0; kind < KINDS; kind++) {
                if (goods[kind] < told.in[kind] * times) {
                    return TOO_FEW;
                }
            }
            for (int kind = 0; kind < KINDS; kind++) {
                if (goods[kind] + told.won(kind) * times > MOST_GOODS) {
                    return TOO_MANY;
                }
            }
            return DONE;
        }
    }

    private static final class Rule {
        final boolean source;
        final int[] in = new int[KINDS];
        final int[] out = new int[KINDS];
        int times;

        Rule(boolean source) {
            this.source = source;
        }

        int won(int kind) {
            return out[kind] - in[kind];
        }
    }

    private static final class Single {
        final int number;
        final boolean bound;
        final int room;
        final int[] linePlayers = new int[KEPT_OF_LINE];
        final int[] lineDays = new int[KEPT_OF_LINE];
        int lineLength;
        int wear;
        int lentUntil = NONE;
        Player lender;
        Player owner;
        Single holder;

        Single(int number, boolean bound, int room) {
            this.number = number;
            this.bound = bound;
            this.room = room;
        }

        boolean isBroken() {
            return owner == null;
        }

        boolean isLent() {
            return lender != null;
        }

        void passTo(Player player, int day) {
            owner = player;
            if (lineLength < KEPT_OF_LINE) {
                linePlayers[lineLength] = player.number;
                lineDays[lineLength] = day;
            }
            lineLength++;
        }

        void endLoan() {
            lender = null;
            lentUntil = NONE;
        }

        boolean liesWithin(Single outer) {
            for (Single step = holder; step != null; step = step.holder) {
                if (step == outer) {
                    return true;
                }
            }
            return false;
        }
    }

    /** All singles, and what is done to several of them at once. */
    private static final class Things {
        private final ArrayList<Single> singles = new ArrayList<>();

        int size() {
            return singles.size();
        }

        void add(Single made) {
            singles.add(made);
        }

        Single at(int number) {
            if (number < 0 || number >= singles.size()) {
                throw new IndexOutOfBoundsException("there is no such single");
            }
            return singles.get(number);
        }

        boolean mayLieIn(Single inner, Single outer) {
            return !inner.isBroken() && inner.owner == outer.owner
                    && inner.holder == null && inner != outer && !outer.liesWithin(inner)
                    && rightWithin(outer) < outer.room;
        }

        /** Whether it may change hands: it is whole, lies in none, and nothing of it is bound or lent. */
        boolean mayLeave(Single top) {
            if (top.isBroken() || top.holder != null) {
                return false;
            }
            for (int i = 0; i < singles.size(); i++) {
                Single each = singles.get(i);
                if ((each.bound || each.isLent()) && goesWith(each, top)) {
                    return false;
                }
            }
            return true;
        }

        void passOn(Single top, Player to, int day) {
            for (int i = 0; i < singles.size(); i++) {
                Single each = singles.get(i);
                if (goesWith(each, top)) {
                    each.passTo(to, day);
                }
            }
        }

        void breakUp(Single worn) {
            worn.holder = null;
            worn.owner = null;
            worn.endLoan();
            for (int i = 0; i < singles.size(); i++) {
                Single each = singles.get(i);
                if (each.holder == worn) {
                    each.holder = null;
                }
            }
        }

        void bringBack(int today) {
            // A return ends one loan and begins none, so there are at most as many returns as singles.
            for (int i = 0; i < singles.size(); i++) {
                Single due = nextDue(today);
                if (due == null) {
                    return;
                }
                Player lender = due.lender;
                int day = due.lentUntil;
                due.holder = null;
                due.endLoan();
                // The line tells the day on which it came back, which may be before today.
                passOn(due, lender, day);
            }
        }

        private Single nextDue(int today) {
            Single next = null;
            for (int i = 0; i < singles.size(); i++) {
                Single each = singles.get(i);
                if (each.isLent() && each.lentUntil <= today
                        && (next == null || each.lentUntil < next.lentUntil)) {
                    next = each;
                }
            }
            return next;
        }

        int rightWithin(Single outer) {
            int found = 0;
            for (int i = 0; i < singles.size(); i++) {
                if (singles.get(i).holder == outer) {
                    found++;
                }
            }
            return found;
        }

        int allWithin(Single outer) {
            int found = 0;
            for (int i = 0; i < singles.size(); i++) {
                if (singles.get(i).liesWithin(outer)) {
                    found++;
                }
            }
            return found;
        }

        int countBroken() {
            int found = 0;
            for (int i = 0; i < singles.size(); i++) {
                if (singles.get(i).isBroken()) {
                    found++;
                }
            }
            return found;
        }

        int countLent() {
            int found = 0;
            for (int i = 0; i < singles.size(); i++) {
                if (singles.get(i).isLent()) {
                    found++;
                }
            }
            return found;
        }

        private static boolean goesWith(Single each, Single top) {
            return each == top || each.liesWithin(top);
        }
    }

    /** What one player of an offer gives; thing is null where no single is given. */
    private static final class Side {
        final Player giver;
        final int many;
        final int kind;
        final Single thing;
        final int notedWear;

        Side(Player giver, int many, int kind, Single thing) {
            this.giver = giver;
            this.many = many;
            this.kind = kind;
            this.thing = thing;
            this.notedWear = thing == null ? 0 : thing.wear;
        }

        boolean hasTooFew() {
            return giver.goods[kind] < many;
        }

        boolean wouldHaveTooMany(Side other) {
            int left = giver.goods[other.kind] - (kind == other.kind ? many : 0);
            return left + other.many > MOST_GOODS;
        }

        boolean isWornSince() {
            return thing != null && thing.wear != notedWear;
        }
    }

    private static final class Offer {
        final Side first;
        final Side second;
        boolean open = true;

        Offer(Side first, Side second) {
            this.first = first;
            this.second = second;
        }
    }

    /**
     * Finds out exactly whether a gain exists, by the simplex method in whole numbers.
     *
     * Whatever is won of each kind must be 0 or more; the sum of it is made as large as can be. It
     * either stays 0 or has no bound, and the second is a gain: fractions of a time do not matter, as
     * all times can be multiplied. A row tells a basic quantity, multiplied by scale, by the free ones;
     * the last row tells the sum. The quantities are named: times of rules 0 to 9, what is won of
     * kinds 10 to 13. The lowest name goes first (Bland's rule), so that no basis comes twice.
     */
    private static final class Hunt {
        private static final int SUM_ROW = KINDS;
        /** So many ways there are to choose 4 basic quantities out of 14. */
        private static final int MOST_STEPS = 1001;

        private final long[][] rows = new long[KINDS + 1][MOST_RULES];
        private final int[] rowNames = new int[KINDS];
        private final int[] columnNames = new int[MOST_RULES];
        private int columns;
        private long scale;

        void begin() {
            columns = 0;
            scale = 1;
            for (int kind = 0; kind < KINDS; kind++) {
                rowNames[kind] = MOST_RULES + kind;
            }
        }

        void enter(Rule rule) {
            if (columns >= MOST_RULES) {
                return;
            }
            long all = 0;
            for (int kind = 0; kind < KINDS; kind++) {
                int won = rule.won(kind);
                rows[kind][columns] = won;
                all += won;
            }
            rows[SUM_ROW][columns] = all;
            columnNames[columns] = columns;
            columns++;
        }

        boolean findsGain() {
            for (int step = 0; step < MOST_STEPS; step++) {
                int column = risingColumn();
                if (column == NONE) {
                    return false;
                }
                int row = hinderingRow(column);
                if (row == NONE) {
                    return true;
                }
                exchange(row, column);
            }
            return false;
        }

        private int risingColumn() {
            int found = NONE;
            for (int j = 0; j < columns; j++) {
                if (rows[SUM_ROW][j] > 0 && (found == NONE || columnNames[j] < columnNames[found])) {
                    found = j;
                }
            }
            return found;
        }

        private int hinderingRow(int column) {
            int found = NONE;
            for (int i = 0; i < KINDS; i++) {
                if (rows[i][column] < 0 && (found == NONE || rowNames[i] < rowNames[found])) {
                    found = i;
                }
            }
            return found;
        }

        private void exchange(int row, int column) {
            long pivot = -rows[row][column];
            for (int i = 0; i <= SUM_ROW; i++) {
                if (i != row) {
                    replaceIn(i, row, column, pivot);
                }
            }
            rows[row][column] = -scale;
            scale = pivot;
            int name = rowNames[row];
            rowNames[row] = columnNames[column];
            columnNames[column] = name;
        }

        private void replaceIn(int i, int row, int column, long pivot) {
            // The scale is always an earlier pivot, above 0; it is looked at as every divisor is.
            if (scale == 0) {
                return;
            }
            long factor = rows[i][column];
            for (int j = 0; j < columns; j++) {
                if (j != column) {
                    // Leaves no rest: every number here is a minor of the first rows.
                    rows[i][j] = (factor * rows[row][j] + pivot * rows[i][j]) / scale;
                }
            }
            rows[i][column] = -factor;
        }
    }
}
