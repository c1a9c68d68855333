import java.util.function.Consumer;

/** Promises 11, 12, 14 and, as to singles, 18 at their boundaries: give, lend, days, agree. */
public final class HandsEdgesTest {
    private static final int ALL = 40;

    public static void main(String[] args) {
        whatMayBeGiven();
        whatMayNotBeGivenForBounds();
        whatMayNotBeGivenForPlaces();
        whatMayNotBeGivenForLoans();
        giveNumbers();
        giveToItsOwner();
        giveLines();
        lendNumbers();
        lendDay();
        lendToItsOwner();
        lendItAlone();
        lendMeanwhile();
        dayNumbers();
        dayOfReturn();
        returnOutOfPlaces();
        returnWithAllWithin();
        returnInOrder();
        returnByNumbers();
        returnToWhoHasIt();
        returnOnce();
        Edge.end(11, 12, 14, 18);
    }

    /** Single 0 of player 0, and two other players. */
    private static void alone(Tape x) {
        Edge.players(x, 3);
        Edge.singles(x, 0, 1, 1);
    }

    /** Singles of player 0, each in the one before it, and two other players. */
    private static Consumer<Tape> nested(int many) {
        return x -> {
            Edge.players(x, 3);
            Edge.singles(x, 0, many, 1);
            Edge.chain(x, 0, many - 1);
        };
    }

    /** As nested, but the innermost one is bound. */
    private static Consumer<Tape> withBoundWithin(int steps) {
        return x -> {
            nested(steps).accept(x);
            x.single(0, true, 0);
            x.put(steps, steps - 1);
        };
    }

    /** As nested, but the innermost one is lent by player 2 up to day 5. */
    private static Consumer<Tape> withLentWithin(int steps) {
        return x -> {
            nested(steps).accept(x);
            x.single(2, false, 0);
            x.lend(steps, 0, 5);
            x.put(steps, steps - 1);
        };
    }

    private static Consumer<Tape> both(Consumer<Tape> first, Consumer<Tape> then) {
        return first.andThen(then);
    }

    // ---- whether single 0 may go from player 0 to player 1: by giving, lending and trading alike

    private static void may(String why, Consumer<Tape> scene) {
        parting(why, scene, true);
    }

    private static void mayNot(String why, Consumer<Tape> scene) {
        parting(why, scene, false);
    }

    private static void parting(String why, Consumer<Tape> scene, boolean due) {
        String boundary = (due ? "it may go: " : "it may not go: ") + why;
        Tape given = Edge.begin(11, boundary, scene);
        went(given, due, given.length(), given.give(0, 1));

        Tape lent = Edge.begin(12, boundary, scene);
        int tomorrow = lent.count(0) + 1;
        went(lent, due, lent.length(), lent.lend(0, 1, tomorrow));

        Tape offered = Edge.begin(18, boundary + ", as a's SINGLE", scene);
        offered.offer(0, 1, 0, 0, 0, 0, 0, -1);
        traded(offered, due, 6);
        Tape wanted = Edge.begin(18, boundary + ", as b's SINGLE", scene);
        wanted.offer(1, 0, 0, 0, -1, 0, 0, 0);
        traded(wanted, due, 7);
    }

    private static void traded(Tape x, boolean due, int why) {
        int before = x.length();
        int answer = x.agree(0);
        Check.same("agree", answer, due ? 0 : why);
        went(x, due, before, answer == 0);
        Check.same("open", x.count(7), due ? 0 : 1);
    }

    private static void went(Tape x, boolean due, int before, boolean did) {
        Check.same("it went", did, due);
        if (due) {
            Check.same("its owner", x.look(0, Seen.OWNER), 1);
            int length = x.look(0, Seen.LENGTH);
            Check.same("the last of its LINE", x.line(0, length - 1, false), 1);
            Check.same("the last day of its LINE", x.line(0, length - 1, true), x.count(0));
        } else {
            Check.unchanged(x, "the call", before);
        }
    }

    private static void whatMayBeGiven() {
        may("it lies in none, and is neither BOUND nor LENT", HandsEdgesTest::alone);
        may("it holds 39 of which none is BOUND or LENT", nested(ALL));
        may("it is worn by 99", both(HandsEdgesTest::alone, x -> x.wear(0, 99)));
        mayNot("it is worn by 100", both(HandsEdgesTest::alone, x -> x.wear(0, 100)));
    }

    private static void whatMayNotBeGivenForBounds() {
        mayNot("it is BOUND", x -> {
            Edge.players(x, 3);
            x.single(0, true, 0);
        });
        int[] steps = {1, 2, 39};
        for (int each : steps) {
            mayNot("what is within it through " + each + " steps is BOUND", withBoundWithin(each));
        }
        may("a BOUND one was within it, and is TAKEN out", both(withBoundWithin(2), x -> x.take(2)));
        may("a BOUND one was within it, and went out with its HOLDER", both(withBoundWithin(2), x -> x.take(1)));
        may("a BOUND one was within it, and is BROKEN", both(withBoundWithin(1), x -> x.wear(1, 100)));
        mayNot("a BOUND one is within it, worn by 99", both(withBoundWithin(1), x -> x.wear(1, 99)));
        may("a BOUND one lies beside it", both(HandsEdgesTest::alone, x -> x.single(0, true, 1)));
        may("a BOUND one held it, and is BROKEN", both(HandsEdgesTest::alone, x -> {
            x.single(0, true, 1);
            x.put(0, 1);
            x.wear(1, 100);
        }));
    }

    private static void whatMayNotBeGivenForPlaces() {
        Consumer<Tape> within = both(HandsEdgesTest::alone, x -> {
            Edge.singles(x, 0, 2, 1);
            x.put(0, 1);
        });
        mayNot("it lies in one", within);
        mayNot("it lies in one that lies in one", both(within, x -> x.put(1, 2)));
        may("it lay in one, and is TAKEN out", both(within, x -> x.take(0)));
        may("it lay in one that is BROKEN", both(within, x -> x.wear(1, 100)));
    }

    private static void whatMayNotBeGivenForLoans() {
        Consumer<Tape> lentHere = x -> {
            Edge.players(x, 3);
            Edge.singles(x, 2, 1, 1);
            x.lend(0, 0, 5);
        };
        mayNot("it is LENT", lentHere);
        mayNot("it is LENT, a day ahead of its day", both(lentHere, x -> x.days(4)));
        mayNot("it is LENT by the one who is to have it", x -> {
            Edge.players(x, 3);
            Edge.singles(x, 1, 1, 1);
            x.lend(0, 0, 5);
        });
        may("it was LENT, and came back", both(HandsEdgesTest::alone, x -> {
            x.lend(0, 1, 5);
            x.days(5);
        }));
        int[] steps = {1, 2, 39};
        for (int each : steps) {
            mayNot("what is within it through " + each + " steps is LENT", withLentWithin(each));
        }
        mayNot("what is within it is LENT, a day ahead of its day", both(withLentWithin(2), x -> x.days(4)));
        may("what was within it was LENT, and came back", both(withLentWithin(2), x -> x.days(5)));
        may("what was within it is LENT, and is TAKEN out", both(withLentWithin(2), x -> x.take(2)));
        may("what was within it was LENT, and is BROKEN", both(withLentWithin(2), x -> x.wear(2, 100)));
        may("it came along with a LENT one, and is TAKEN out", x -> {
            Edge.players(x, 3);
            Edge.singles(x, 2, 2, 1);
            x.put(0, 1);
            x.lend(1, 0, 5);
            x.take(0);
        });
    }

    // ---- promise 11

    private static void giveNumbers() {
        Edge.numbered(11, "SINGLE", 2, HandsEdgesTest::twoThings, (x, n) ->
                Check.same("give", x.give(n, 1), true));
        Edge.numbered(11, "PLAYER", 3, HandsEdgesTest::ofTheMiddle, (x, n) ->
                Check.same("give", x.give(0, n), n != 1));
        Edge.numbered(11, "SINGLE of 40", ALL, HandsEdgesTest::allThings, (x, n) ->
                Check.same("give", x.give(n, 1), true));
        Edge.numbered(11, "PLAYER of 10", 10, HandsEdgesTest::allPlayers, (x, n) ->
                Check.same("give", x.give(0, n), n != 5));
        Tape x = Edge.begin(11, "what there is not ahead of what may not be", HandsEdgesTest::alone);
        x.wear(0, 100);
        Check.fails(x, "a BROKEN one to PLAYER 3", Edge.INDEX, () -> x.give(0, 3));
        Check.fails(x, "a BROKEN one to PLAYER -1", Edge.INDEX, () -> x.give(0, -1));
    }

    private static void twoThings(Tape x) {
        Edge.players(x, 3);
        Edge.singles(x, 0, 2, 1);
    }

    private static void ofTheMiddle(Tape x) {
        Edge.players(x, 3);
        Edge.singles(x, 1, 1, 1);
    }

    private static void allThings(Tape x) {
        Edge.players(x, 2);
        Edge.singles(x, 0, ALL, 0);
    }

    private static void allPlayers(Tape x) {
        Edge.players(x, 10);
        Edge.singles(x, 5, 1, 0);
    }

    private static void giveToItsOwner() {
        Tape first = Edge.begin(11, "to its OWNER", HandsEdgesTest::alone);
        Check.refused(first, "give", () -> first.give(0, 0));
        Tape later = Edge.begin(11, "to its OWNER, who was not its first one", HandsEdgesTest::alone);
        later.give(0, 1);
        Check.refused(later, "give", () -> later.give(0, 1));
        Check.same("back to the first one", later.give(0, 0), true);
    }

    private static void giveLines() {
        Tape x = Edge.begin(11, "all within it, and nothing else, has a LINE that is longer by one", nested(3));
        x.single(0, false, 0);
        x.single(1, false, 0);
        x.days(6);
        Check.same("give", x.give(0, 1), true);
        for (int single = 0; single < 3; single++) {
            Seen.place(x, single, 1, single - 1);
            Seen.lineEnds(x, single, 2, 1, 6);
        }
        Seen.place(x, 3, 0, -1);
        Seen.lineEnds(x, 3, 1, 0, 0);
        Seen.lineEnds(x, 4, 1, 1, 0);
        Check.same("none is LENT", x.count(5), 0);
        Tape back = Edge.begin(11, "all within it goes along, with lower numbers too", y -> Edge.players(y, 2));
        Edge.singles(back, 0, 4, 1);
        Edge.chainBack(back, 0, 3);
        Check.same("give", back.give(3, 1), true);
        for (int single = 0; single < 4; single++) {
            Seen.place(back, single, 1, single < 3 ? single + 1 : -1);
            Seen.lineEnds(back, single, 2, 1, 0);
        }
        Tape twice = Edge.begin(11, "twice on one day, the LINE has both", HandsEdgesTest::alone);
        twice.give(0, 1);
        twice.give(0, 2);
        Check.same("place 1", twice.line(0, 1, false), 1);
        Seen.lineEnds(twice, 0, 3, 2, 0);
    }

    // ---- promise 12

    private static void lendNumbers() {
        Edge.numbered(12, "SINGLE", 2, HandsEdgesTest::twoThings, (x, n) ->
                Check.same("lend", x.lend(n, 1, 1), true));
        Edge.numbered(12, "PLAYER", 3, HandsEdgesTest::ofTheMiddle, (x, n) ->
                Check.same("lend", x.lend(0, n, 1), n != 1));
        Edge.numbered(12, "SINGLE of 40", ALL, HandsEdgesTest::allThings, (x, n) ->
                Check.same("lend", x.lend(n, 1, 1), true));
        Edge.numbered(12, "PLAYER of 10", 10, HandsEdgesTest::allPlayers, (x, n) ->
                Check.same("lend", x.lend(0, n, 1), n != 5));
        Tape x = Edge.begin(12, "what there is not ahead of what may not be", HandsEdgesTest::alone);
        Check.fails(x, "SINGLE 1 up to TODAY", Edge.INDEX, () -> x.lend(1, 1, 0));
        Check.fails(x, "to PLAYER 3 up to TODAY", Edge.INDEX, () -> x.lend(0, 3, 0));
        x.wear(0, 100);
        Check.fails(x, "a BROKEN one to PLAYER 3", Edge.INDEX, () -> x.lend(0, 3, 9));
    }

    private static void lendDay() {
        int[] todays = {0, 8};
        for (int today : todays) {
            int[] refused = {today, today - 1, -1, Integer.MIN_VALUE};
            for (int day : refused) {
                Tape x = Edge.begin(12, "TODAY is " + today + ", up to day " + day, HandsEdgesTest::alone);
                x.days(today);
                Check.refused(x, "lend", () -> x.lend(0, 1, day));
            }
            int[] taken = {today + 1, today + 2, Integer.MAX_VALUE};
            for (int day : taken) {
                Tape x = Edge.begin(12, "TODAY is " + today + ", up to day " + day, HandsEdgesTest::alone);
                x.days(today);
                Check.same("lend", x.lend(0, 1, day), true);
                Seen.place(x, 0, 1, -1);
                Seen.loan(x, 0, 1, day, 0);
                Seen.lineEnds(x, 0, 2, 1, today);
            }
        }
    }

    private static void lendToItsOwner() {
        Tape own = Edge.begin(12, "to its OWNER", HandsEdgesTest::alone);
        Check.refused(own, "lend", () -> own.lend(0, 0, 1));
        Tape borrower = Edge.begin(12, "to the one it is LENT to", HandsEdgesTest::alone);
        borrower.lend(0, 1, 1);
        Check.refused(borrower, "lend", () -> borrower.lend(0, 1, 2));
        Check.refused(borrower, "back to the lender", () -> borrower.lend(0, 0, 2));
        Check.refused(borrower, "on to a third one", () -> borrower.lend(0, 2, 1));
    }

    private static void lendItAlone() {
        Tape x = Edge.begin(12, "it alone is LENT, and what is within goes along", nested(3));
        x.days(2);
        Check.same("lend", x.lend(0, 1, 5), true);
        for (int single = 0; single < 3; single++) {
            Seen.place(x, single, 1, single - 1);
            Seen.lineEnds(x, single, 2, 1, 2);
        }
        Seen.loan(x, 0, 1, 5, 0);
        Seen.notLent(x, 1);
        Seen.notLent(x, 2);
        Check.same("LENT ones", x.count(5), 1);
    }

    private static void lendMeanwhile() {
        Tape put = Edge.begin(12, "it may be PUT meanwhile", HandsEdgesTest::alone);
        put.single(1, false, 1);
        put.lend(0, 1, 5);
        Check.same("put", put.put(0, 1), true);
        Seen.place(put, 0, 1, 1);
        Seen.loan(put, 0, 1, 5, 0);
        Tape taken = Edge.begin(12, "what is within may be TAKEN out meanwhile, and stays", nested(2));
        taken.lend(0, 1, 5);
        Check.same("take", taken.take(1), true);
        Check.same("give", taken.give(1, 2), true);
        taken.days(5);
        Seen.place(taken, 1, 2, -1);
        Seen.place(taken, 0, 0, -1);
        Seen.lineEnds(taken, 1, 3, 2, 0);
        Tape added = Edge.begin(12, "what was PUT into it meanwhile goes to the lender", HandsEdgesTest::alone);
        added.single(1, true, 1);
        added.single(1, false, 1);
        added.lend(0, 1, 5);
        Check.same("put a BOUND one", added.put(1, 0), true);
        Check.same("put one into that", added.put(2, 1), true);
        added.days(5);
        for (int single = 1; single < 3; single++) {
            Seen.place(added, single, 0, single - 1);
            Seen.lineEnds(added, single, 2, 0, 5);
        }
        Tape again = Edge.begin(12, "it may be LENT again when it is back", HandsEdgesTest::alone);
        again.lend(0, 1, 1);
        Check.refused(again, "before", () -> again.lend(0, 2, 9));
        again.days(1);
        Check.same("then", again.lend(0, 2, 2), true);
        Seen.loan(again, 0, 1, 2, 0);
    }

    // ---- promise 14

    private static void dayNumbers() {
        Edge.range(14, "0 to 1000 days", 0, 1000, x -> {
            alone(x);
            x.lend(0, 1, 2000);
            x.days(500);
        }, (x, n) -> {
            Check.same("days", x.days(n), 500 + n);
            Check.same("count(0)", x.count(0), 500 + n);
        });
        Tape x = Edge.begin(14, "0 days bring nothing back", HandsEdgesTest::alone);
        x.lend(0, 1, 1);
        Check.idle(x, "days", 0, () -> x.days(0));
        x.days(1);
        Check.idle(x, "days, behind a return", 1, () -> x.days(0));
    }

    private static void dayOfReturn() {
        int[] steps = {0, 1, 4, 5, 6, 1000};
        for (int n : steps) {
            Tape x = Edge.begin(14, "LENT up to day 5, on day " + n, HandsEdgesTest::alone);
            x.lend(0, 1, 5);
            Check.same("days", x.days(n), n);
            boolean back = n >= 5;
            Seen.place(x, 0, back ? 0 : 1, -1);
            Seen.loan(x, 0, back ? 0 : 1, back ? -1 : 5, back ? -1 : 0);
            Seen.lineEnds(x, 0, back ? 3 : 2, back ? 0 : 1, back ? 5 : 0);
            Check.same("LENT ones", x.count(5), back ? 0 : 1);
        }
        Tape late = Edge.begin(14, "LENT up to the last of all days", HandsEdgesTest::alone);
        late.lend(0, 1, Integer.MAX_VALUE);
        for (int i = 0; i < 100; i++) {
            late.days(1000);
        }
        Seen.loan(late, 0, 1, Integer.MAX_VALUE, 0);
    }

    private static void returnOutOfPlaces() {
        Tape x = Edge.begin(14, "it is taken out of what it lies in, through steps too", HandsEdgesTest::alone);
        Edge.singles(x, 1, 2, 1);
        x.lend(0, 1, 5);
        x.put(2, 1);
        x.put(0, 2);
        x.days(5);
        Seen.place(x, 0, 0, -1);
        Seen.place(x, 2, 1, 1);
        Seen.place(x, 1, 1, -1);
        Seen.within(x, 1, 1, 1);
        Check.same("no LINE of what held it", x.look(1, Seen.LENGTH), 1);
        Check.same("nor of that between", x.look(2, Seen.LENGTH), 1);
    }

    private static void returnWithAllWithin() {
        Tape x = Edge.begin(14, "all within it goes back with it, through 39 steps", nested(ALL));
        x.days(3);
        x.lend(0, 1, 7);
        x.days(4);
        for (int single = 0; single < ALL; single++) {
            Seen.place(x, single, 0, single - 1);
            Check.same("length of " + single, x.look(single, Seen.LENGTH), 3);
            Check.same("the day of " + single, x.line(single, 2, true), 7);
            Check.same("the day ahead of " + single, x.line(single, 1, true), 3);
        }
        Tape back = Edge.begin(14, "all within it goes back with it, with lower numbers too", y -> Edge.players(y, 2));
        Edge.singles(back, 0, 4, 1);
        Edge.chainBack(back, 0, 3);
        back.lend(3, 1, 2);
        back.days(2);
        for (int single = 0; single < 4; single++) {
            Seen.place(back, single, 0, single < 3 ? single + 1 : -1);
            Seen.lineEnds(back, single, 3, 0, 2);
        }
    }

    /** Single 0 of player 0 in single 1 of player 1, both lent to player 2. */
    private static void oneLentWithinAnother(Tape x, int dayOfInner, int dayOfOuter) {
        Edge.players(x, 3);
        Edge.singles(x, 0, 1, 1);
        Edge.singles(x, 1, 1, 1);
        x.lend(0, 2, dayOfInner);
        x.lend(1, 2, dayOfOuter);
        Check.same("put", x.put(0, 1), true);
    }

    private static void returnInOrder() {
        int[][] ways = {{6}, {5, 1}, {4, 2}, {1000}};
        for (int[] way : ways) {
            Tape outer = Edge.begin(14, "by the days: the outer one a day ahead, first step " + way[0]);
            oneLentWithinAnother(outer, 6, 5);
            Tape inner = new Tape();
            oneLentWithinAnother(inner, 5, 6);
            for (int n : way) {
                outer.days(n);
                inner.days(n);
            }
            Seen.lineEnds(outer, 0, 4, 0, 6);
            Check.same("it went along", outer.line(0, 2, false), 1);
            Check.same("on the outer one's day", outer.line(0, 2, true), 5);
            Seen.lineEnds(outer, 1, 3, 1, 5);
            Check.begin("promise 14, by the days: the inner one a day ahead, first step " + way[0]);
            Seen.lineEnds(inner, 0, 3, 0, 5);
            Seen.lineEnds(inner, 1, 3, 1, 6);
        }
        Tape between = Edge.begin(14, "between both days the inner one is the outer lender's");
        oneLentWithinAnother(between, 6, 5);
        between.days(5);
        Seen.place(between, 0, 1, 1);
        Seen.loan(between, 0, 1, 6, 0);
        Check.refused(between, "give the outer one", () -> between.give(1, 2));
        Check.same("take the inner one", between.take(0), true);
        Check.refused(between, "give it", () -> between.give(0, 2));
        between.days(1);
        Seen.place(between, 0, 0, -1);
    }

    private static void returnByNumbers() {
        Tape lower = Edge.begin(14, "on one day the lower number first: the inner one");
        oneLentWithinAnother(lower, 5, 5);
        lower.days(5);
        Seen.lineEnds(lower, 0, 3, 0, 5);
        Seen.lineEnds(lower, 1, 3, 1, 5);
        Tape higher = Edge.begin(14, "on one day the lower number first: the outer one", x -> Edge.players(x, 3));
        Edge.singles(higher, 1, 1, 1);
        Edge.singles(higher, 0, 1, 1);
        higher.lend(1, 2, 5);
        higher.lend(0, 2, 5);
        higher.put(1, 0);
        higher.days(5);
        Seen.lineEnds(higher, 0, 3, 1, 5);
        Seen.lineEnds(higher, 1, 4, 0, 5);
        Check.same("it went along first", higher.line(1, 2, false), 1);
        Seen.place(higher, 1, 0, -1);
        Tape many = Edge.begin(14, "40 on one day", HandsEdgesTest::allThings);
        for (int single = 0; single < ALL; single++) {
            many.lend(single, 1, 3);
        }
        Check.same("LENT ones", many.count(5), ALL);
        many.days(2);
        Check.same("LENT ones a day ahead", many.count(5), ALL);
        many.days(1);
        Check.same("LENT ones on the day", many.count(5), 0);
        Seen.place(many, 0, 0, -1);
        Seen.place(many, 39, 0, -1);
    }

    private static void returnToWhoHasIt() {
        Tape x = Edge.begin(14, "its lender has it already", HandsEdgesTest::twoThings);
        x.lend(0, 1, 6);
        x.lend(1, 1, 5);
        x.put(0, 1);
        x.days(5);
        Seen.place(x, 0, 0, 1);
        Seen.loan(x, 0, 1, 6, 0);
        Check.same("LENT ones", x.count(5), 1);
        x.days(1);
        Seen.place(x, 0, 0, -1);
        Seen.notLent(x, 0);
        Seen.lineEnds(x, 0, 4, 0, 6);
        Seen.lineEnds(x, 1, 3, 0, 5);
    }

    private static void returnOnce() {
        Tape x = Edge.begin(14, "it comes back once", HandsEdgesTest::alone);
        x.lend(0, 1, 5);
        x.days(5);
        x.give(0, 2);
        x.days(1000);
        Seen.place(x, 0, 2, -1);
        Seen.lineEnds(x, 0, 4, 2, 5);
    }
}
