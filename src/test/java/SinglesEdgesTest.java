import java.util.function.Consumer;

/** Promises 8, 9, 10, 13, 15 and 16, at their boundaries: single, put, take, wear, look, line. */
public final class SinglesEdgesTest {
    private static final int ALL = 40;

    public static void main(String[] args) {
        singleNumbers();
        singleLimit();
        singleAtFirst();
        putNumbers();
        putOwners();
        putBroken();
        putWhatLiesInOne();
        putIntoItself();
        putRoundInACircle();
        putIntoWhatLiesDeep();
        putRoom();
        putRoomCountsRightWithin();
        putRoomIsFreeAgain();
        putBoundAndLent();
        take();
        takeOutOfTheMiddle();
        takeBoundLentAndBroken();
        wearNumbers();
        wearUpTo();
        wearOfBroken();
        breakWithin();
        breakWhatHolds();
        breakWhatIsLent();
        nothingCanBeDoneAgain();
        lookNumbers();
        lookWithin();
        lookHolder();
        lookOwnerThroughSteps();
        lineNumbers();
        linePlaces();
        lineKept();
        lineKeptWithin();
        Edge.end(8, 9, 10, 13, 15, 16);
    }

    /** Two players; singles 0 to 2 of the first one with room for one, single 3 of the other one. */
    private static void fewThings(Tape x) {
        Edge.players(x, 2);
        Edge.singles(x, 0, 3, 1);
        Edge.singles(x, 1, 1, 1);
    }

    private static Consumer<Tape> things(int many, int room) {
        return x -> {
            Edge.players(x, 2);
            Edge.singles(x, 0, many, room);
        };
    }

    // ---- promise 8

    private static void singleNumbers() {
        Edge.numbered(8, "PLAYER", 2, SinglesEdgesTest::fewThings, (x, n) -> {
            Check.same("single", x.single(n, false, 1), 4);
            Check.same("owner", x.look(4, Seen.OWNER), n);
        });
        Edge.numbered(8, "PLAYER of 10", 10, x -> Edge.players(x, 10), (x, n) ->
                Check.same("single", x.single(n, false, 1), 0));
        Edge.range(8, "ROOM is 0 to 8", 0, 8, things(10, 0), (x, n) -> {
            Check.same("single", x.single(0, false, n), 10);
            for (int i = 0; i < 10; i++) {
                Check.same("put " + i, x.put(i, 10), i < n);
            }
        });
        Tape x = Edge.begin(8, "no PLAYER ahead of ROOM", SinglesEdgesTest::fewThings);
        Check.fails(x, "PLAYER 2, ROOM 9", Edge.INDEX, () -> x.single(2, false, 9));
        Check.fails(x, "PLAYER -1, ROOM -1", Edge.INDEX, () -> x.single(-1, true, -1));
    }

    private static void singleLimit() {
        Tape last = Edge.begin(8, "the 40th is one", things(39, 0));
        Check.same("the 40th", last.single(1, false, 8), 39);
        Check.same("count(3)", last.count(3), 40);
        Check.same("its owner", last.look(39, Seen.OWNER), 1);

        Tape full = Edge.begin(8, "there are 40: no 41st", things(ALL, 0));
        Check.fails(full, "the 41st", Edge.FULL, () -> full.single(0, false, 0));
        Check.fails(full, "a BOUND one", Edge.FULL, () -> full.single(1, true, 8));
        Check.fails(full, "look at it", Edge.INDEX, () -> full.look(40, 0));

        Tape broken = Edge.begin(8, "BROKEN ones count among the 40", things(ALL, 0));
        broken.wear(0, 100);
        broken.wear(39, 100);
        Check.fails(broken, "the 41st", Edge.FULL, () -> broken.single(0, false, 0));

        Tape order = Edge.begin(8, "PLAYER and ROOM ahead of the 41st", things(ALL, 0));
        Check.fails(order, "PLAYER 2", Edge.INDEX, () -> order.single(2, false, 0));
        Check.fails(order, "ROOM 9", Edge.ARGUMENT, () -> order.single(0, false, 9));
        Check.fails(order, "ROOM -1", Edge.ARGUMENT, () -> order.single(0, false, -1));
    }

    private static void singleAtFirst() {
        Tape x = Edge.begin(8, "what it is at first", y -> Edge.players(y, 2));
        x.days(7);
        Check.same("the first", x.single(1, false, 8), 0);
        Check.same("the second", x.single(0, true, 0), 1);
        for (int single = 0; single < 2; single++) {
            int owner = 1 - single;
            Seen.place(x, single, owner, -1);
            Seen.within(x, single, 0, 0);
            Seen.notLent(x, single);
            Seen.lineEnds(x, single, 1, owner, 7);
            Check.same("wear", x.look(single, Seen.WEAR), 0);
        }
    }

    // ---- promise 9

    private static void putNumbers() {
        Edge.numbered(9, "SINGLE", 3, things(3, 2), (x, n) ->
                Check.same("put", x.put(n, n == 0 ? 1 : 0), true));
        Edge.numbered(9, "what it is PUT into", 3, things(3, 2), (x, n) ->
                Check.same("put", x.put(n == 0 ? 1 : 0, n), true));
        Edge.numbered(9, "SINGLE of 40", ALL, things(ALL, 1), (x, n) ->
                Check.same("put", x.put(n, n == 0 ? 1 : 0), true));
        Edge.numbered(9, "what it is PUT into, of 40", ALL, things(ALL, 1), (x, n) ->
                Check.same("put", x.put(n == 0 ? 1 : 0, n), true));
        Tape x = Edge.begin(9, "what there is not ahead of what may not be", SinglesEdgesTest::fewThings);
        x.wear(0, 100);
        Check.fails(x, "a BROKEN one into none", Edge.INDEX, () -> x.put(0, 4));
        Check.fails(x, "none into a BROKEN one", Edge.INDEX, () -> x.put(-1, 0));
        Check.fails(x, "none into itself", Edge.INDEX, () -> x.put(4, 4));
    }

    private static void putOwners() {
        Tape two = Edge.begin(9, "two OWNERS", SinglesEdgesTest::fewThings);
        Check.refused(two, "into the other one's", () -> two.put(0, 3));
        Check.refused(two, "the other one's into it", () -> two.put(3, 0));
        Tape one = Edge.begin(9, "one OWNER", SinglesEdgesTest::fewThings);
        one.give(3, 0);
        Check.same("put", one.put(0, 3), true);
        Seen.place(one, 0, 0, 3);
        Seen.place(one, 3, 0, -1);
        Seen.lineEnds(one, 0, 1, 0, 0);
        Tape parted = Edge.begin(9, "one OWNER no more", SinglesEdgesTest::fewThings);
        parted.give(0, 1);
        Check.refused(parted, "put", () -> parted.put(1, 0));
    }

    private static void putBroken() {
        Tape first = Edge.begin(9, "the first one is BROKEN", SinglesEdgesTest::fewThings);
        first.wear(0, 100);
        Check.refused(first, "put", () -> first.put(0, 1));
        Tape second = Edge.begin(9, "the other one is BROKEN", SinglesEdgesTest::fewThings);
        second.wear(1, 100);
        Check.refused(second, "put", () -> second.put(0, 1));
        Tape both = Edge.begin(9, "both are BROKEN, and have one OWNER: NONE", SinglesEdgesTest::fewThings);
        both.wear(0, 100);
        both.wear(1, 100);
        Check.refused(both, "put", () -> both.put(0, 1));
        Tape worn = Edge.begin(9, "both are worn by 99", SinglesEdgesTest::fewThings);
        worn.wear(0, 99);
        worn.wear(1, 99);
        Check.same("put", worn.put(0, 1), true);
    }

    private static void putWhatLiesInOne() {
        Tape other = Edge.begin(9, "it lies in another one", SinglesEdgesTest::fewThings);
        other.put(0, 1);
        Check.refused(other, "put", () -> other.put(0, 2));
        Tape same = Edge.begin(9, "it lies in that one", things(2, 8));
        same.put(0, 1);
        Check.refused(same, "put", () -> same.put(0, 1));
        Tape out = Edge.begin(9, "it lies in one no more", SinglesEdgesTest::fewThings);
        out.put(0, 1);
        out.take(0);
        Check.same("put", out.put(0, 2), true);
        Seen.place(out, 0, 0, 2);
        Seen.within(out, 1, 0, 0);
        Tape freed = Edge.begin(9, "what it lay in is BROKEN", SinglesEdgesTest::fewThings);
        freed.put(0, 1);
        freed.wear(1, 100);
        Check.same("put", freed.put(0, 2), true);
    }

    private static void putIntoItself() {
        Tape x = Edge.begin(9, "into itself", things(1, 8));
        Check.refused(x, "put", () -> x.put(0, 0));
    }

    private static void putRoundInACircle() {
        int[] steps = {1, 2, 3, 38, 39};
        for (int last : steps) {
            Tape x = Edge.begin(9, "the other one lies in it through " + last + " steps", things(last + 1, 2));
            Edge.chain(x, 0, last);
            Check.refused(x, "put", () -> x.put(0, last));
            x.take(last);
            Check.same("it lies there no more", x.put(0, last), true);
            Check.same("all within it", x.look(last, Seen.ALL_WITHIN), last);
            Tape back = Edge.begin(9, "the other one, of a lower number, lies in it through " + last + " steps",
                    things(last + 1, 2));
            Edge.chainBack(back, 0, last);
            Check.refused(back, "put", () -> back.put(last, 0));
        }
    }

    private static void putIntoWhatLiesDeep() {
        int[] steps = {1, 2, 38};
        for (int last : steps) {
            Tape x = Edge.begin(9, "the other one lies " + last + " steps within a third one", things(last + 2, 1));
            Edge.chain(x, 0, last);
            Check.same("put", x.put(last + 1, last), true);
            Seen.place(x, last + 1, 0, last);
            Seen.within(x, 0, 1, last + 1);
        }
        Tape full = Edge.begin(9, "what holds things is PUT with them", SinglesEdgesTest::fewThings);
        full.put(0, 1);
        Check.same("put", full.put(1, 2), true);
        Seen.place(full, 0, 0, 1);
        Seen.within(full, 2, 1, 2);
    }

    private static void putRoom() {
        for (int room = 0; room <= 8; room++) {
            Tape x = Edge.begin(9, "ROOM " + room, things(9, 0));
            int into = x.single(0, false, room);
            for (int i = 0; i < room; i++) {
                Check.same("put " + i, x.put(i, into), true);
            }
            int next = room;
            Check.refused(x, "one more", () -> x.put(next, into));
            Seen.within(x, into, room, room);
        }
    }

    private static void putRoomCountsRightWithin() {
        Tape x = Edge.begin(9, "what lies deeper takes no ROOM", things(4, 2));
        Edge.chain(x, 0, 2);
        Check.same("a second one right within", x.put(3, 0), true);
        Seen.within(x, 0, 2, 3);
        Tape inner = Edge.begin(9, "ROOM of each is its own", things(4, 1));
        inner.put(1, 0);
        Check.refused(inner, "into the outer one", () -> inner.put(2, 0));
        Check.same("into the inner one", inner.put(2, 1), true);
        Check.refused(inner, "into the inner one again", () -> inner.put(3, 1));
    }

    private static void putRoomIsFreeAgain() {
        Tape taken = Edge.begin(9, "ROOM is free again when one is TAKEN out", things(3, 1));
        taken.put(1, 0);
        taken.take(1);
        Check.same("put", taken.put(2, 0), true);
        Check.refused(taken, "the first one again", () -> taken.put(1, 0));
        Tape broken = Edge.begin(9, "ROOM is free again when one is BROKEN", things(3, 1));
        broken.put(1, 0);
        broken.wear(1, 100);
        Check.same("put", broken.put(2, 0), true);
        Tape back = Edge.begin(9, "ROOM is free again when one comes back", things(2, 1));
        back.single(1, false, 0);
        back.lend(2, 0, 3);
        back.put(2, 0);
        back.days(2);
        Check.refused(back, "a day ahead", () -> back.put(1, 0));
        back.days(1);
        Check.same("on the day", back.put(1, 0), true);
    }

    private static void putBoundAndLent() {
        Tape bound = Edge.begin(9, "BOUND ones", x -> x.player());
        bound.single(0, true, 1);
        bound.single(0, true, 1);
        Check.same("into a BOUND one", bound.put(0, 1), true);
        Tape lent = Edge.begin(9, "a LENT one", SinglesEdgesTest::fewThings);
        lent.lend(3, 0, 9);
        Check.same("it is PUT", lent.put(3, 0), true);
        Check.same("something is PUT into it", lent.put(1, 3), true);
        Seen.loan(lent, 3, 1, 9, 1);
        Tape gone = Edge.begin(9, "what is LENT is not the lender's", SinglesEdgesTest::fewThings);
        gone.lend(0, 1, 9);
        Check.refused(gone, "into the lender's", () -> gone.put(0, 1));
        Check.refused(gone, "the lender's into it", () -> gone.put(1, 0));
    }

    // ---- promise 10

    private static void take() {
        Edge.numbered(10, "SINGLE", 3, x -> {
            things(3, 1).accept(x);
            Edge.chain(x, 0, 2);
        }, (x, n) -> Check.same("take", x.take(n), n > 0));
        Edge.numbered(10, "SINGLE of 40", ALL, things(ALL, 0), (x, n) -> Check.same("take", x.take(n), false));
        Tape none = Edge.begin(10, "it lies in none", things(2, 1));
        Check.refused(none, "take", () -> none.take(0));
        Tape holds = Edge.begin(10, "it lies in none, but holds one", things(2, 1));
        holds.put(1, 0);
        Check.refused(holds, "take", () -> holds.take(0));
        Tape one = Edge.begin(10, "it lies in one", things(2, 1));
        one.put(1, 0);
        Check.same("take", one.take(1), true);
        Seen.place(one, 1, 0, -1);
        Seen.within(one, 0, 0, 0);
        Seen.lineEnds(one, 1, 1, 0, 0);
        Tape twice = Edge.begin(10, "it was TAKEN out already", things(2, 1));
        twice.put(1, 0);
        twice.take(1);
        Check.refused(twice, "take", () -> twice.take(1));
    }

    private static void takeOutOfTheMiddle() {
        Tape x = Edge.begin(10, "it lies in none then, and what is within stays within", things(4, 1));
        Edge.chain(x, 0, 3);
        Check.same("take", x.take(2), true);
        int[] holders = {-1, 0, -1, 2};
        for (int single = 0; single < 4; single++) {
            Seen.place(x, single, 0, holders[single]);
        }
        Seen.within(x, 0, 1, 1);
        Seen.within(x, 2, 1, 1);
    }

    private static void takeBoundLentAndBroken() {
        Tape bound = Edge.begin(10, "a BOUND one", x -> x.player());
        bound.single(0, true, 1);
        bound.single(0, true, 1);
        bound.put(1, 0);
        Check.same("take", bound.take(1), true);
        Tape lent = Edge.begin(10, "a LENT one", SinglesEdgesTest::fewThings);
        lent.lend(3, 0, 9);
        lent.put(3, 0);
        Check.same("take", lent.take(3), true);
        Seen.loan(lent, 3, 1, 9, 1);
        Tape broken = Edge.begin(10, "a BROKEN one, and what lay in it", things(3, 1));
        Edge.chain(broken, 0, 2);
        broken.wear(1, 100);
        Check.refused(broken, "take it", () -> broken.take(1));
        Check.refused(broken, "take what lay in it", () -> broken.take(2));
    }

    // ---- promise 13

    private static void wearNumbers() {
        Edge.numbered(13, "SINGLE", 4, SinglesEdgesTest::fewThings, (x, n) -> {
            Check.same("wear", x.wear(n, 7), 7);
            Check.same("look", x.look(n, Seen.WEAR), 7);
            Check.same("another one", x.look((n + 1) % 4, Seen.WEAR), 0);
        });
        Edge.numbered(13, "SINGLE of 40", ALL, things(ALL, 0), (x, n) -> Check.same("wear", x.wear(n, 1), 1));
        Edge.range(13, "WEAR of 1 to 100", 1, 100, SinglesEdgesTest::fewThings, (x, n) -> {
            Check.same("wear", x.wear(0, n), n);
            Check.same("look", x.look(0, Seen.WEAR), n);
            Check.same("owner", x.look(0, Seen.OWNER), n < 100 ? 0 : -1);
            Check.same("broken ones", x.count(4), n < 100 ? 0 : 1);
        });
        Tape x = Edge.begin(13, "no SINGLE ahead of a wrong number", SinglesEdgesTest::fewThings);
        Check.fails(x, "SINGLE 4, 0", Edge.INDEX, () -> x.wear(4, 0));
        Check.fails(x, "SINGLE -1, 101", Edge.INDEX, () -> x.wear(-1, 101));
    }

    private static void wearUpTo() {
        int[] more = {1, 29, 30, 31, 99, 100};
        for (int n : more) {
            Tape x = Edge.begin(13, "70 and " + n, SinglesEdgesTest::fewThings);
            Check.same("70", x.wear(0, 70), 70);
            int due = Math.min(70 + n, 100);
            Check.same("wear", x.wear(0, n), due);
            Check.same("look", x.look(0, Seen.WEAR), due);
            Check.same("owner", x.look(0, Seen.OWNER), due < 100 ? 0 : -1);
        }
        Tape x = Edge.begin(13, "one by one up to 100", SinglesEdgesTest::fewThings);
        for (int i = 1; i <= 100; i++) {
            Check.same("owner", x.look(0, Seen.OWNER), 0);
            Check.same("wear", x.wear(0, 1), i);
        }
        Check.same("owner at 100", x.look(0, Seen.OWNER), -1);
    }

    private static void wearOfBroken() {
        Tape x = Edge.begin(13, "it is BROKEN", SinglesEdgesTest::fewThings);
        x.wear(0, 100);
        Check.idle(x, "by 1", -1, () -> x.wear(0, 1));
        Check.idle(x, "by 100", -1, () -> x.wear(0, 100));
        Tape order = Edge.begin(13, "a wrong number ahead of BROKEN", SinglesEdgesTest::fewThings);
        order.wear(0, 100);
        Check.fails(order, "by 0", Edge.ARGUMENT, () -> order.wear(0, 0));
        Check.fails(order, "by 101", Edge.ARGUMENT, () -> order.wear(0, 101));
    }

    private static void breakWithin() {
        int[] wears = {99, 100};
        for (int wear : wears) {
            Tape x = Edge.begin(13, "WEAR " + wear + " of what lies in one", things(2, 1));
            x.put(1, 0);
            Check.same("wear", x.wear(1, wear), wear);
            Seen.place(x, 1, wear < 100 ? 0 : -1, wear < 100 ? 0 : -1);
            Seen.within(x, 0, wear < 100 ? 1 : 0, wear < 100 ? 1 : 0);
            Seen.place(x, 0, 0, -1);
        }
    }

    private static void breakWhatHolds() {
        int[] wears = {99, 100};
        for (int wear : wears) {
            Tape x = Edge.begin(13, "WEAR " + wear + " of what holds others", things(5, 2));
            Edge.chain(x, 0, 3);
            x.put(4, 1);
            x.days(3);
            Check.same("wear", x.wear(1, wear), wear);
            boolean broken = wear == 100;
            Seen.place(x, 0, 0, -1);
            Seen.place(x, 1, broken ? -1 : 0, broken ? -1 : 0);
            Seen.place(x, 2, 0, broken ? -1 : 1);
            Seen.place(x, 3, 0, 2);
            Seen.place(x, 4, 0, broken ? -1 : 1);
            Seen.within(x, 0, broken ? 0 : 1, broken ? 0 : 4);
            Seen.within(x, 1, broken ? 0 : 2, broken ? 0 : 3);
            Seen.within(x, 2, 1, 1);
            for (int single = 0; single < 5; single++) {
                Seen.lineEnds(x, single, 1, 0, 0);
            }
        }
        Tape back = Edge.begin(13, "what lies deeper stays where it lies, with lower numbers too", things(5, 1));
        Edge.chainBack(back, 0, 4);
        Check.same("wear", back.wear(3, 100), 100);
        int[] holders = {1, 2, -1, -1, -1};
        for (int single = 0; single < 5; single++) {
            Seen.place(back, single, single == 3 ? -1 : 0, holders[single]);
        }
        Seen.within(back, 4, 0, 0);
        Seen.within(back, 2, 1, 2);
    }

    private static void breakWhatIsLent() {
        int[] wears = {99, 100};
        for (int wear : wears) {
            Tape x = Edge.begin(13, "WEAR " + wear + " of what is LENT", things(2, 1));
            x.put(1, 0);
            x.lend(0, 1, 5);
            Check.same("wear", x.wear(0, wear), wear);
            boolean broken = wear == 100;
            Seen.loan(x, 0, broken ? 0 : 1, broken ? -1 : 5, broken ? -1 : 0);
            Check.same("LENT ones", x.count(5), broken ? 0 : 1);
            Seen.place(x, 1, 1, broken ? -1 : 0);
            x.days(5);
            Seen.place(x, 0, broken ? -1 : 0, -1);
            Seen.place(x, 1, broken ? 1 : 0, broken ? -1 : 0);
            Check.same("its LINE", x.look(0, Seen.LENGTH), broken ? 2 : 3);
            Check.same("the LINE of what lay in it", x.look(1, Seen.LENGTH), broken ? 2 : 3);
        }
        Tape held = Edge.begin(13, "what holds a LENT one breaks: that is LENT still", things(1, 1));
        held.single(1, false, 0);
        held.lend(1, 0, 5);
        held.put(1, 0);
        held.wear(0, 100);
        Seen.place(held, 1, 0, -1);
        Seen.loan(held, 1, 1, 5, 1);
        held.days(5);
        Seen.place(held, 1, 1, -1);
    }

    private static void nothingCanBeDoneAgain() {
        Tape x = Edge.begin(13, "nothing can be done with a BROKEN one", SinglesEdgesTest::fewThings);
        x.wear(0, 100);
        Check.refused(x, "put it", () -> x.put(0, 1));
        Check.refused(x, "put into it", () -> x.put(1, 0));
        Check.refused(x, "take", () -> x.take(0));
        Check.refused(x, "give to who had it", () -> x.give(0, 0));
        Check.refused(x, "give to another one", () -> x.give(0, 1));
        Check.refused(x, "lend", () -> x.lend(0, 1, 9));
        Check.idle(x, "wear", -1, () -> x.wear(0, 1));
        x.offer(0, 1, 0, 0, 0, 0, 0, -1);
        Check.idle(x, "agree", 6, () -> x.agree(0));
        x.days(1000);
        Seen.place(x, 0, -1, -1);
        Seen.lineEnds(x, 0, 1, 0, 0);
    }

    // ---- promise 15

    private static void lookNumbers() {
        Edge.numbered(15, "SINGLE", 4, SinglesEdgesTest::fewThings, (x, n) ->
                Check.same("owner", x.look(n, 0), n < 3 ? 0 : 1));
        Edge.numbered(15, "SINGLE of 40", ALL, things(ALL, 0), (x, n) -> Check.same("owner", x.look(n, 0), 0));
        int[] due = {0, -1, 0, 0, 0, 0, -1, -1, 1};
        for (int what = 0; what < due.length; what++) {
            Tape x = Edge.begin(15, "what " + what + " is told", SinglesEdgesTest::fewThings);
            Check.same("look", x.look(0, what), due[what]);
        }
        int[] others = {-1, 9, Integer.MIN_VALUE, Integer.MAX_VALUE};
        for (int what : others) {
            Edge.none(15, "what", what, Edge.MISSING, SinglesEdgesTest::fewThings, (x, n) -> x.look(0, n));
        }
        Tape order = Edge.begin(15, "no SINGLE ahead of another what", SinglesEdgesTest::fewThings);
        Check.fails(order, "SINGLE 4, what 9", Edge.INDEX, () -> order.look(4, 9));
        Check.fails(order, "SINGLE -1, what -1", Edge.INDEX, () -> order.look(-1, -1));
        Tape broken = Edge.begin(15, "a BROKEN one", SinglesEdgesTest::fewThings);
        broken.wear(0, 100);
        int[] dueOfBroken = {-1, -1, 100, 0, 0, 0, -1, -1, 1};
        for (int what = 0; what < dueOfBroken.length; what++) {
            Check.same("look " + what, broken.look(0, what), dueOfBroken[what]);
        }
        Check.fails(broken, "another what", Edge.MISSING, () -> broken.look(0, 9));
    }

    private static void lookWithin() {
        Tape none = Edge.begin(15, "nothing within", things(1, 8));
        Seen.within(none, 0, 0, 0);
        Tape deep = Edge.begin(15, "39 steps within", things(ALL, 1));
        Edge.chain(deep, 0, 39);
        for (int single = 0; single < ALL; single++) {
            Seen.within(deep, single, single < 39 ? 1 : 0, 39 - single);
        }
        Tape back = Edge.begin(15, "39 steps within, with lower numbers", things(ALL, 1));
        Edge.chainBack(back, 0, 39);
        for (int single = 0; single < ALL; single++) {
            Seen.within(back, single, single > 0 ? 1 : 0, single);
        }
        Tape wide = Edge.begin(15, "8 right within, and 31 more through steps", things(ALL, 8));
        for (int single = 1; single < ALL; single++) {
            Check.same("put " + single, wide.put(single, (single - 1) / 8), true);
        }
        Seen.within(wide, 0, 8, 39);
        Seen.within(wide, 1, 8, 8);
        Seen.within(wide, 4, 7, 7);
        Seen.within(wide, 5, 0, 0);
    }

    private static void lookHolder() {
        Tape x = Edge.begin(15, "HOLDER is the one right round it, 0 too", things(3, 1));
        Edge.chain(x, 0, 2);
        for (int single = 0; single < 3; single++) {
            Check.same("holder of " + single, x.look(single, Seen.HOLDER), single - 1);
        }
    }

    private static void lookOwnerThroughSteps() {
        Tape x = Edge.begin(15, "what lies within through 39 steps has the OWNER of the outermost", things(ALL, 1));
        Edge.chain(x, 0, 39);
        Check.same("give", x.give(0, 1), true);
        for (int single = 0; single < ALL; single++) {
            Seen.place(x, single, 1, single - 1);
            Check.same("length of " + single, x.look(single, Seen.LENGTH), 2);
        }
    }

    // ---- promise 16

    private static void lineNumbers() {
        Edge.numbered(16, "SINGLE, the PLAYER", 4, SinglesEdgesTest::fewThings, (x, n) ->
                Check.same("line", x.line(n, 0, false), n < 3 ? 0 : 1));
        Edge.numbered(16, "SINGLE, the day", 4, SinglesEdgesTest::fewThings, (x, n) ->
                Check.same("line", x.line(n, 0, true), 0));
        Edge.numbered(16, "SINGLE of 40", ALL, things(ALL, 0), (x, n) ->
                Check.same("line", x.line(n, 0, false), 0));
        Tape order = Edge.begin(16, "no SINGLE ahead of no place", SinglesEdgesTest::fewThings);
        Check.fails(order, "SINGLE 4, place -1", Edge.INDEX, () -> order.line(4, -1, false));
        Check.fails(order, "SINGLE -1, place 30", Edge.INDEX, () -> order.line(-1, 30, true));
    }

    private static void linePlaces() {
        int[] nowhere = {-1, 3, 4, 29, 30, Integer.MIN_VALUE, Integer.MAX_VALUE};
        for (int k : nowhere) {
            Tape x = Edge.begin(16, "a LINE of 3 has no place " + k, SinglesEdgesTest::handedOnTwice);
            Check.same("the PLAYER", x.line(0, k, false), -1);
            Check.same("the day", x.line(0, k, true), -1);
        }
        int[] players = {0, 1, 0};
        int[] days = {0, 4, 9};
        for (int k = 0; k < 3; k++) {
            Tape x = Edge.begin(16, "a LINE of 3 has place " + k, SinglesEdgesTest::handedOnTwice);
            Check.same("the PLAYER", x.line(0, k, false), players[k]);
            Check.same("the day", x.line(0, k, true), days[k]);
        }
        Tape broken = Edge.begin(16, "a BROKEN one keeps its LINE", SinglesEdgesTest::handedOnTwice);
        broken.wear(0, 100);
        Seen.lineEnds(broken, 0, 3, 0, 9);
    }

    private static void handedOnTwice(Tape x) {
        fewThings(x);
        x.days(4);
        x.give(0, 1);
        x.days(5);
        x.give(0, 0);
    }

    /** A single that so many players had, one a day. */
    private static Tape hadBy(String boundary, int many) {
        Tape x = Edge.begin(16, boundary, things(2, 1));
        x.put(1, 0);
        for (int i = 1; i < many; i++) {
            x.days(1);
            Check.same("give " + i, x.give(0, i % 2), true);
        }
        return x;
    }

    private static void lineKept() {
        int[] lengths = {29, 30, 31, 32, 60};
        for (int length : lengths) {
            Tape x = hadBy("a LINE of " + length + ", of which 30 are kept at most", length);
            Check.same("its length", x.look(0, Seen.LENGTH), length);
            for (int k = 27; k <= 32; k++) {
                boolean kept = k < 30 && k < length;
                Check.same("PLAYER of place " + k, x.line(0, k, false), kept ? k % 2 : -1);
                Check.same("day of place " + k, x.line(0, k, true), kept ? k : -1);
            }
            Check.same("the first PLAYER", x.line(0, 0, false), 0);
            Check.same("the first day", x.line(0, 0, true), 0);
            Check.same("the last PLAYER", x.line(0, length - 1, false), length <= 30 ? (length - 1) % 2 : -1);
        }
    }

    private static void lineKeptWithin() {
        Tape x = hadBy("a LINE of 31 of what goes along", 31);
        Check.same("its length", x.look(1, Seen.LENGTH), 31);
        Check.same("place 29", x.line(1, 29, true), 29);
        Check.same("place 30", x.line(1, 30, true), -1);
        x.take(1);
        x.give(1, 1);
        Check.same("its length alone", x.look(1, Seen.LENGTH), 32);
        Check.same("the other one's length", x.look(0, Seen.LENGTH), 31);
    }
}
