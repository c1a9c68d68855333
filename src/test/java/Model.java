import java.util.ArrayList;
import java.util.List;

/**
 * The document once more, written as plainly as can be and in another way than the class: singles hold lists
 * of what lies in them, days pass one by one, and a call that throws answers the exception's name.
 */
final class Model {
    static final String INDEX = "IndexOutOfBoundsException";
    static final String ARGUMENT = "IllegalArgumentException";
    static final String FULL = "UnsupportedOperationException";
    static final String MISSING = "NoSuchElementException";

    private static final class Thing {
        int owner;
        boolean bound;
        int room;
        int wear;
        int lender = -1;
        int until = -1;
        Thing within;
        final List<Thing> contents = new ArrayList<>();
        final List<int[]> line = new ArrayList<>();

        List<Thing> withContents() {
            List<Thing> all = new ArrayList<>();
            all.add(this);
            for (Thing each : contents) {
                all.addAll(each.withContents());
            }
            return all;
        }

        void moveOut() {
            if (within != null) {
                within.contents.remove(this);
                within = null;
            }
        }

        boolean isFree() {
            if (wear == 100 || within != null) {
                return false;
            }
            for (Thing each : withContents()) {
                if (each.bound || each.lender != -1) {
                    return false;
                }
            }
            return true;
        }

        void goTo(int player, int day) {
            for (Thing each : withContents()) {
                each.owner = player;
                each.line.add(new int[] {player, day});
            }
        }
    }

    private final List<long[]> goods = new ArrayList<>();
    private final List<List<Integer>> deedAnswers = new ArrayList<>();
    private final List<int[][]> rules = new ArrayList<>();
    private final List<Boolean> sources = new ArrayList<>();
    private final int[] times = new int[10];
    private final int[] weights = new int[4];
    private final long[][] sums = new long[2][4];
    private final List<Thing> things = new ArrayList<>();
    private final List<int[]> offers = new ArrayList<>();
    private final List<Boolean> open = new ArrayList<>();
    private int today;
    private int done;

    private static boolean out(int n, int least, int most) {
        return n < least || n > most;
    }

    private boolean noPlayer(int player) {
        return out(player, 0, goods.size() - 1);
    }

    private boolean noRule(int rule) {
        return out(rule, 0, rules.size() - 1);
    }

    private boolean noThing(int thing) {
        return out(thing, 0, things.size() - 1);
    }

    private boolean noKind(int kind) {
        return out(kind, 0, 3);
    }

    Object player() {
        if (goods.size() == 10) {
            return FULL;
        }
        goods.add(new long[4]);
        deedAnswers.add(new ArrayList<>());
        return goods.size() - 1;
    }

    Object rule(boolean source) {
        if (rules.size() == 10) {
            return FULL;
        }
        rules.add(new int[2][4]);
        sources.add(source);
        return rules.size() - 1;
    }

    Object part(int rule, int kind, boolean out, int n) {
        if (noRule(rule) || noKind(kind)) {
            return INDEX;
        }
        if (out(n, 0, 9)) {
            return ARGUMENT;
        }
        rules.get(rule)[out ? 1 : 0][kind] = n;
        return null;
    }

    Object deed(int player, int number, int rule, int times) {
        if (noPlayer(player) || noRule(rule)) {
            return INDEX;
        }
        if (out(times, 1, 1000)) {
            return ARGUMENT;
        }
        List<Integer> answers = deedAnswers.get(player);
        if (number >= 1 && number == answers.size()) {
            return answers.get(number - 1);
        }
        if (number - 1 != answers.size()) {
            return 3;
        }
        answers.add(tryDeed(goods.get(player), rules.get(rule), times));
        return answers.get(number - 1);
    }

    private int tryDeed(long[] had, int[][] rule, int times) {
        long[] left = had.clone();
        for (int kind = 0; kind < 4; kind++) {
            left[kind] -= (long) rule[0][kind] * times;
            if (left[kind] < 0) {
                return 1;
            }
        }
        for (int kind = 0; kind < 4; kind++) {
            left[kind] += (long) rule[1][kind] * times;
            if (left[kind] > 1000000000) {
                return 2;
            }
        }
        for (int kind = 0; kind < 4; kind++) {
            sums[0][kind] += (long) rule[1][kind] * times;
            sums[1][kind] += (long) rule[0][kind] * times;
            had[kind] = left[kind];
        }
        done++;
        return 0;
    }

    Object has(int player, int kind) {
        return noPlayer(player) || noKind(kind) ? INDEX : (Object) (int) goods.get(player)[kind];
    }

    Object sum(int kind, boolean broken) {
        return noKind(kind) ? INDEX : (Object) sums[broken ? 1 : 0][kind];
    }

    Object single(int player, boolean bound, int room) {
        if (noPlayer(player)) {
            return INDEX;
        }
        if (out(room, 0, 8)) {
            return ARGUMENT;
        }
        if (things.size() == 40) {
            return FULL;
        }
        Thing thing = new Thing();
        thing.bound = bound;
        thing.room = room;
        thing.goTo(player, today);
        things.add(thing);
        return things.size() - 1;
    }

    Object put(int single, int into) {
        if (noThing(single) || noThing(into)) {
            return INDEX;
        }
        Thing inner = things.get(single);
        Thing outer = things.get(into);
        if (inner.wear == 100 || outer.wear == 100 || inner.owner != outer.owner || inner.within != null
                || inner.withContents().contains(outer) || outer.contents.size() >= outer.room) {
            return false;
        }
        inner.within = outer;
        outer.contents.add(inner);
        return true;
    }

    Object take(int single) {
        if (noThing(single)) {
            return INDEX;
        }
        boolean may = things.get(single).within != null;
        things.get(single).moveOut();
        return may;
    }

    Object give(int single, int to) {
        if (noThing(single) || noPlayer(to)) {
            return INDEX;
        }
        Thing thing = things.get(single);
        if (!thing.isFree() || thing.owner == to) {
            return false;
        }
        thing.goTo(to, today);
        return true;
    }

    Object lend(int single, int to, int day) {
        if (noThing(single) || noPlayer(to)) {
            return INDEX;
        }
        Thing thing = things.get(single);
        int lender = thing.owner;
        if (day <= today || give(single, to).equals(false)) {
            return false;
        }
        thing.lender = lender;
        thing.until = day;
        return true;
    }

    Object wear(int single, int n) {
        if (noThing(single)) {
            return INDEX;
        }
        if (out(n, 1, 100)) {
            return ARGUMENT;
        }
        Thing thing = things.get(single);
        if (thing.wear == 100) {
            return -1;
        }
        thing.wear += n;
        if (thing.wear >= 100) {
            thing.wear = 100;
            thing.moveOut();
            for (Thing each : new ArrayList<>(thing.contents)) {
                each.moveOut();
            }
            thing.owner = -1;
            thing.lender = -1;
            thing.until = -1;
        }
        return thing.wear;
    }

    Object days(int n) {
        if (out(n, 0, 1000)) {
            return ARGUMENT;
        }
        for (int i = 0; i < n; i++) {
            today++;
            for (Thing each : things) {
                if (each.lender != -1 && each.until == today) {
                    each.moveOut();
                    each.goTo(each.lender, today);
                    each.lender = -1;
                    each.until = -1;
                }
            }
        }
        return today;
    }

    Object look(int single, int what) {
        if (noThing(single)) {
            return INDEX;
        }
        Thing thing = things.get(single);
        int[] all = {thing.owner, things.indexOf(thing.within), thing.wear, thing.contents.size(),
            thing.withContents().size() - 1, thing.lender == -1 ? 0 : 1, thing.until, thing.lender,
            thing.line.size()};
        return out(what, 0, 8) ? MISSING : (Object) all[what];
    }

    Object line(int single, int k, boolean day) {
        if (noThing(single)) {
            return INDEX;
        }
        List<int[]> line = things.get(single).line;
        return out(k, 0, Math.min(line.size(), 30) - 1) ? -1 : line.get(k)[day ? 1 : 0];
    }

    Object offer(int... told) {
        if (noPlayer(told[0]) || noPlayer(told[1]) || noKind(told[3]) || noKind(told[6])
                || told[4] != -1 && noThing(told[4]) || told[7] != -1 && noThing(told[7])) {
            return INDEX;
        }
        if (told[0] == told[1] || out(told[2], 0, 1000000) || out(told[5], 0, 1000000)) {
            return ARGUMENT;
        }
        if (offers.size() == 60) {
            return FULL;
        }
        int[] kept = java.util.Arrays.copyOf(told, 10);
        kept[8] = wearOf(told[4]);
        kept[9] = wearOf(told[7]);
        offers.add(kept);
        open.add(true);
        return offers.size() - 1;
    }

    private int wearOf(int single) {
        return single == -1 ? 0 : things.get(single).wear;
    }

    Object agree(int offer) {
        if (out(offer, 0, offers.size() - 1)) {
            return INDEX;
        }
        if (!open.get(offer)) {
            return 1;
        }
        int[] o = offers.get(offer);
        long[] a = goods.get(o[0]).clone();
        long[] b = goods.get(o[1]).clone();
        a[o[3]] -= o[2];
        b[o[6]] -= o[5];
        if (a[o[3]] < 0 || b[o[6]] < 0) {
            return a[o[3]] < 0 ? 2 : 3;
        }
        a[o[6]] += o[5];
        b[o[3]] += o[2];
        if (a[o[6]] > 1000000000 || b[o[3]] > 1000000000) {
            return a[o[6]] > 1000000000 ? 4 : 5;
        }
        if (cannotPart(o[0], o[4]) || cannotPart(o[1], o[7])) {
            return cannotPart(o[0], o[4]) ? 6 : 7;
        }
        if (wearOf(o[4]) != o[8] || wearOf(o[7]) != o[9]) {
            return 8;
        }
        goods.set(o[0], a);
        goods.set(o[1], b);
        if (o[4] != -1) {
            things.get(o[4]).goTo(o[1], today);
        }
        if (o[7] != -1) {
            things.get(o[7]).goTo(o[0], today);
        }
        open.set(offer, false);
        return 0;
    }

    private boolean cannotPart(int player, int single) {
        return single != -1 && (things.get(single).owner != player || !things.get(single).isFree());
    }

    Object withdraw(int offer) {
        return out(offer, 0, offers.size() - 1) ? INDEX : (Object) open.set(offer, false);
    }

    Object times(int rule, int n) {
        if (noRule(rule)) {
            return INDEX;
        }
        if (out(n, 0, 1000)) {
            return ARGUMENT;
        }
        times[rule] = n;
        return null;
    }

    Object earns() {
        long least = 0;
        long most = 0;
        for (int kind = 0; kind < 4; kind++) {
            long net = 0;
            for (int rule = 0; rule < rules.size(); rule++) {
                int each = rules.get(rule)[1][kind] - rules.get(rule)[0][kind];
                net += sources.get(rule) ? 0 : (long) each * times[rule];
            }
            least = Math.min(least, net);
            most = Math.max(most, net);
        }
        return least == 0 && most > 0;
    }

    Object weigh(int kind, int n) {
        if (noKind(kind)) {
            return INDEX;
        }
        if (out(n, 0, 1000)) {
            return ARGUMENT;
        }
        weights[kind] = n;
        return null;
    }

    Object bars() {
        boolean bars = weights[0] > 0 && weights[1] > 0 && weights[2] > 0 && weights[3] > 0;
        for (int rule = 0; rule < rules.size(); rule++) {
            long in = 0;
            long out = 0;
            for (int kind = 0; kind < 4; kind++) {
                in += (long) weights[kind] * rules.get(rule)[0][kind];
                out += (long) weights[kind] * rules.get(rule)[1][kind];
            }
            bars = bars && (sources.get(rule) || out <= in);
        }
        return bars;
    }

    Object count(int what) {
        int brokenOnes = (int) things.stream().filter(each -> each.wear == 100).count();
        int lentOnes = (int) things.stream().filter(each -> each.lender != -1).count();
        int openOnes = (int) open.stream().filter(each -> each).count();
        int[] all = {today, goods.size(), rules.size(), things.size(), brokenOnes, lentOnes, offers.size(),
            openOnes, done};
        return out(what, 0, 8) ? -1 : all[what];
    }
}
