import java.util.NoSuchElementException;

/** Promises 8 to 16: single, put, take, give, lend, wear, days, look, line. */
public final class SinglesTest {
    private static final Class<IndexOutOfBoundsException> INDEX = IndexOutOfBoundsException.class;
    private static final Class<IllegalArgumentException> ARGUMENT = IllegalArgumentException.class;
    private static final Class<UnsupportedOperationException> FULL = UnsupportedOperationException.class;
    private static final Class<NoSuchElementException> MISSING = NoSuchElementException.class;

    public static void main(String[] args) {
        newSingles();
        putting();
        puttingRoom();
        puttingDeep();
        taking();
        giving();
        givingWhatHoldsBound();
        lending();
        lendingRefused();
        lendingWhatWasGiven();
        lentWithin();
        comingBackByDays();
        comingBackByNumbers();
        comingBackToItsOwner();
        wearing();
        breaking();
        breakingWhatIsLent();
        daysPass();
        looking();
        lines();
        Check.end();
    }

    private static Tape withPlayers(int players) {
        Tape x = new Tape();
        for (int i = 0; i < players; i++) {
            x.player();
        }
        return x;
    }

    private static void newSingles() {
        Tape x = withPlayers(2);
        x.days(4);
        Check.same("single()", x.single(1, true, 8), 0);
        Seen.place(x, 0, 1, -1);
        Check.same("wear", x.look(0, Seen.WEAR), 0);
        Seen.loan(x, 0, 0, -1, -1);
        Seen.lineEnds(x, 0, 1, 1, 4);
        Check.fails(x, "single of player 2", INDEX, () -> x.single(2, false, 0));
        Check.fails(x, "single of player -1", INDEX, () -> x.single(-1, false, 0));
        Check.fails(x, "room 9", ARGUMENT, () -> x.single(0, false, 9));
        Check.fails(x, "room -1", ARGUMENT, () -> x.single(0, false, -1));
        Check.fails(x, "player ahead of room", INDEX, () -> x.single(2, false, 9));
        for (int i = 1; i < 40; i++) {
            Check.same("single()", x.single(0, false, 0), i);
        }
        Check.fails(x, "the 41st", FULL, () -> x.single(0, false, 0));
        Check.fails(x, "room ahead of the 41st", ARGUMENT, () -> x.single(0, false, 9));
        Check.fails(x, "player ahead of the 41st", INDEX, () -> x.single(2, false, 0));
    }

    private static void putting() {
        Tape x = withPlayers(2);
        x.single(0, false, 2);
        x.single(0, true, 1);
        x.single(1, false, 1);
        x.single(0, false, 1);
        Check.refused(x, "into itself", () -> x.put(0, 0));
        Check.refused(x, "into another owner's", () -> x.put(0, 2));
        Check.same("a bound one may be put", x.put(1, 0), true);
        Seen.place(x, 1, 0, 0);
        Check.refused(x, "into what lies in it", () -> x.put(0, 1));
        Check.refused(x, "what lies in one already", () -> x.put(1, 3));
        Check.refused(x, "again into the same", () -> x.put(1, 0));
        Check.fails(x, "put of 4", INDEX, () -> x.put(4, 0));
        Check.fails(x, "put of -1", INDEX, () -> x.put(-1, 0));
        Check.fails(x, "put into 4", INDEX, () -> x.put(3, 4));
        Check.fails(x, "put into -1", INDEX, () -> x.put(3, -1));
        Check.same("no line from putting", x.look(1, Seen.LENGTH), 1);
        x.wear(3, 100);
        Check.refused(x, "a broken one", () -> x.put(3, 0));
        Check.refused(x, "into a broken one", () -> x.put(0, 3));
        x.single(1, false, 3);
        x.wear(2, 100);
        Check.refused(x, "a broken one into a broken one", () -> x.put(3, 2));
    }

    private static void puttingRoom() {
        Tape x = withPlayers(1);
        x.single(0, false, 8);
        x.single(0, false, 0);
        for (int i = 2; i < 12; i++) {
            x.single(0, false, 0);
        }
        Check.refused(x, "no room at all", () -> x.put(2, 1));
        for (int i = 2; i < 10; i++) {
            Check.same("put " + i, x.put(i, 0), true);
            Check.same("within", x.look(0, Seen.RIGHT_WITHIN), i - 1);
        }
        Check.refused(x, "the ninth", () -> x.put(10, 0));
        Check.same("take one", x.take(5), true);
        Check.same("then there is room", x.put(10, 0), true);
        Check.refused(x, "and no more", () -> x.put(5, 0));
        Check.same("break one", x.wear(10, 100), 100);
        Check.same("then there is room, too", x.put(5, 0), true);
    }

    private static void puttingDeep() {
        Tape x = withPlayers(2);
        for (int i = 0; i < 40; i++) {
            x.single(0, false, 1);
        }
        for (int i = 1; i < 40; i++) {
            Check.same("put " + i, x.put(i, i - 1), true);
        }
        Check.refused(x, "the first into the last", () -> x.put(0, 39));
        for (int i = 0; i < 40; i++) {
            Check.same("all within " + i, x.look(i, Seen.ALL_WITHIN), 39 - i);
            Check.same("right within " + i, x.look(i, Seen.RIGHT_WITHIN), i < 39 ? 1 : 0);
        }
        Check.same("give it all", x.give(0, 1), true);
        for (int i = 0; i < 40; i++) {
            Seen.place(x, i, 1, i - 1);
            Seen.lineEnds(x, i, 2, 1, 0);
        }
        Check.same("take half", x.take(20), true);
        Check.same("within the first", x.look(0, Seen.ALL_WITHIN), 19);
        Check.same("within the other half", x.look(20, Seen.ALL_WITHIN), 19);
        Check.same("turn it round", x.put(0, 39), true);
        Check.same("within the other half now", x.look(20, Seen.ALL_WITHIN), 39);
    }

    private static void taking() {
        Tape x = withPlayers(1);
        x.single(0, false, 1);
        x.single(0, false, 1);
        Check.refused(x, "it lies in none", () -> x.take(0));
        x.put(1, 0);
        Check.refused(x, "it holds, but lies in none", () -> x.take(0));
        Check.same("take", x.take(1), true);
        Seen.place(x, 1, 0, -1);
        Check.same("nothing within", x.look(0, Seen.RIGHT_WITHIN), 0);
        Check.same("no line from taking", x.look(1, Seen.LENGTH), 1);
        Check.refused(x, "take again", () -> x.take(1));
        Check.fails(x, "take of 2", INDEX, () -> x.take(2));
        Check.fails(x, "take of -1", INDEX, () -> x.take(-1));
    }

    private static void giving() {
        Tape x = withPlayers(3);
        x.single(0, false, 1);
        x.single(0, false, 1);
        x.single(0, false, 0);
        x.single(0, true, 0);
        x.put(1, 0);
        x.put(2, 1);
        x.days(7);
        Check.refused(x, "what lies in one", () -> x.give(1, 1));
        Check.refused(x, "to its owner", () -> x.give(0, 0));
        Check.refused(x, "a bound one", () -> x.give(3, 1));
        Check.same("give", x.give(0, 1), true);
        for (int i = 0; i < 3; i++) {
            Seen.place(x, i, 1, i - 1);
            Seen.lineEnds(x, i, 2, 1, 7);
        }
        Seen.place(x, 3, 0, -1);
        Check.same("not another's line", x.look(3, Seen.LENGTH), 1);
        Check.same("and on", x.give(0, 2), true);
        Seen.lineEnds(x, 2, 3, 2, 7);
        Check.fails(x, "give of 4", INDEX, () -> x.give(4, 0));
        Check.fails(x, "give of -1", INDEX, () -> x.give(-1, 0));
        Check.fails(x, "give to 3", INDEX, () -> x.give(0, 3));
        Check.fails(x, "give to -1", INDEX, () -> x.give(0, -1));
        x.wear(0, 100);
        Check.refused(x, "a broken one", () -> x.give(0, 1));
        Check.fails(x, "a broken one to no player", INDEX, () -> x.give(0, 3));
    }

    private static void givingWhatHoldsBound() {
        Tape x = withPlayers(2);
        x.single(0, false, 1);
        x.single(0, false, 1);
        x.single(0, true, 0);
        x.put(1, 0);
        x.put(2, 1);
        Check.refused(x, "bound two steps within", () -> x.give(0, 1));
        Check.refused(x, "nor lent", () -> x.lend(0, 1, 5));
        x.take(2);
        Check.same("without it", x.give(0, 1), true);
        Seen.place(x, 2, 0, -1);
    }

    private static void lending() {
        Tape x = withPlayers(3);
        x.single(0, false, 2);
        x.single(0, false, 0);
        x.single(1, false, 1);
        x.single(1, false, 0);
        x.put(1, 0);
        x.days(3);
        Check.same("lend", x.lend(0, 1, 5), true);
        Seen.place(x, 0, 1, -1);
        Seen.place(x, 1, 1, 0);
        Seen.loan(x, 0, 1, 5, 0);
        Seen.loan(x, 1, 0, -1, -1);
        Seen.lineEnds(x, 0, 2, 1, 3);
        Seen.lineEnds(x, 1, 2, 1, 3);
        Check.same("lent", x.count(5), 1);
        Check.refused(x, "what is lent is not given", () -> x.give(0, 2));
        Check.refused(x, "not even back", () -> x.give(0, 0));
        Check.refused(x, "nor lent on", () -> x.lend(0, 2, 9));
        Check.same("put into the borrower's", x.put(0, 2), true);
        Check.refused(x, "what holds it is not given", () -> x.give(2, 0));
        Check.refused(x, "nor lent", () -> x.lend(2, 0, 9));
        Check.same("what is within is taken out", x.take(1), true);
        Check.same("and given away", x.give(1, 2), true);
        Check.same("something is put in", x.put(3, 0), true);
        Check.same("a day ahead", x.days(1), 4);
        Seen.place(x, 0, 1, 2);
        Check.same("the day", x.days(1), 5);
        Seen.place(x, 0, 0, -1);
        Seen.place(x, 1, 2, -1);
        Seen.place(x, 2, 1, -1);
        Seen.place(x, 3, 0, 0);
        Seen.loan(x, 0, 0, -1, -1);
        Seen.lineEnds(x, 0, 3, 0, 5);
        Seen.lineEnds(x, 2, 1, 1, 0);
        Seen.lineEnds(x, 3, 2, 0, 5);
        Check.same("lent no more", x.count(5), 0);
        Check.same("it may be given again", x.give(0, 2), true);
    }

    private static void lendingRefused() {
        Tape x = withPlayers(2);
        x.single(0, false, 1);
        x.single(0, false, 1);
        x.single(0, true, 0);
        x.single(0, false, 0);
        x.put(1, 0);
        x.days(3);
        Check.refused(x, "up to today", () -> x.lend(0, 1, 3));
        Check.refused(x, "up to yesterday", () -> x.lend(0, 1, 2));
        Check.refused(x, "up to the least day", () -> x.lend(0, 1, Integer.MIN_VALUE));
        Check.refused(x, "to its owner", () -> x.lend(0, 0, 4));
        Check.refused(x, "what lies in one", () -> x.lend(1, 1, 4));
        Check.refused(x, "a bound one", () -> x.lend(2, 1, 4));
        Check.fails(x, "lend of 4", INDEX, () -> x.lend(4, 1, 9));
        Check.fails(x, "lend of -1", INDEX, () -> x.lend(-1, 1, 9));
        Check.fails(x, "lend to 2", INDEX, () -> x.lend(0, 2, 9));
        Check.fails(x, "lend to -1", INDEX, () -> x.lend(0, -1, 9));
        Check.fails(x, "index ahead of the day", INDEX, () -> x.lend(0, 2, 3));
        x.wear(3, 100);
        Check.refused(x, "a broken one", () -> x.lend(3, 1, 4));
        Check.same("up to the last day", x.lend(0, 1, Integer.MAX_VALUE), true);
        Check.same("the last day", x.look(0, Seen.UNTIL), Integer.MAX_VALUE);
        x.days(1000);
        Seen.loan(x, 0, 1, Integer.MAX_VALUE, 0);
    }

    /** Its lender is who has it as it is lent: not its first owner, nor an earlier lender. */
    private static void lendingWhatWasGiven() {
        Tape x = withPlayers(3);
        x.single(0, false, 0);
        Check.same("lend", x.lend(0, 2, 1), true);
        x.days(1);
        Check.same("give", x.give(0, 1), true);
        Check.same("lend what was given", x.lend(0, 2, 4), true);
        Seen.loan(x, 0, 1, 4, 1);
        x.days(3);
        Seen.place(x, 0, 1, -1);
        Seen.loan(x, 0, 0, -1, -1);
        Seen.lineEnds(x, 0, 6, 1, 4);

        Check.same("offer", x.offer(1, 2, 0, 0, 0, 0, 0, -1), 0);
        Check.same("agree", x.agree(0), 0);
        Check.same("lend what was traded", x.lend(0, 0, 9), true);
        Seen.loan(x, 0, 1, 9, 2);
        x.days(5);
        Seen.place(x, 0, 2, -1);
        Seen.lineEnds(x, 0, 9, 2, 9);
    }

    private static void lentWithin() {
        Tape x = withPlayers(3);
        x.single(0, false, 1);
        x.single(1, false, 1);
        Check.same("lend 0 to 2", x.lend(0, 2, 7), true);
        Check.same("lend 1 to 2", x.lend(1, 2, 5), true);
        Check.same("0 into 1", x.put(0, 1), true);
        x.days(5);
        Seen.place(x, 1, 1, -1);
        Seen.place(x, 0, 1, 1);
        Seen.loan(x, 0, 1, 7, 0);
        Seen.lineEnds(x, 0, 3, 1, 5);
        x.days(2);
        Seen.place(x, 0, 0, -1);
        Seen.place(x, 1, 1, -1);
        Seen.loan(x, 0, 0, -1, -1);
        Seen.lineEnds(x, 0, 4, 0, 7);
        Seen.lineEnds(x, 1, 3, 1, 5);
    }

    /** As lentWithin, but the days pass in one call: the earlier day still comes first, with its own date. */
    private static void comingBackByDays() {
        Tape x = withPlayers(3);
        x.single(0, false, 1);
        x.single(1, false, 1);
        x.lend(0, 2, 7);
        x.lend(1, 2, 5);
        x.put(0, 1);
        Check.same("days", x.days(100), 100);
        Seen.place(x, 0, 0, -1);
        Seen.place(x, 1, 1, -1);
        Seen.lineEnds(x, 0, 4, 0, 7);
        Check.same("it went along", x.line(0, 2, false), 1);
        Check.same("on the earlier day", x.line(0, 2, true), 5);
        Seen.lineEnds(x, 1, 3, 1, 5);
    }

    private static void comingBackByNumbers() {
        Tape x = withPlayers(3);
        x.single(0, false, 1);
        x.single(1, false, 1);
        x.lend(0, 2, 5);
        x.lend(1, 2, 5);
        x.put(0, 1);
        x.days(5);
        Seen.lineEnds(x, 0, 3, 0, 5);
        Seen.lineEnds(x, 1, 3, 1, 5);

        Tape y = withPlayers(3);
        y.single(1, false, 1);
        y.single(0, false, 1);
        y.lend(0, 2, 5);
        y.lend(1, 2, 5);
        y.put(1, 0);
        y.days(5);
        Seen.lineEnds(y, 0, 3, 1, 5);
        Seen.lineEnds(y, 1, 4, 0, 5);
        Check.same("it went along first", y.line(1, 2, false), 1);
        Seen.place(y, 0, 1, -1);
        Seen.place(y, 1, 0, -1);
    }

    /** Whoever lent it may have it already, within something else: it comes back, with a line, all the same. */
    private static void comingBackToItsOwner() {
        Tape x = withPlayers(2);
        x.single(0, false, 1);
        x.single(0, false, 1);
        x.lend(0, 1, 7);
        x.lend(1, 1, 5);
        x.put(0, 1);
        x.days(5);
        Seen.place(x, 0, 0, 1);
        Seen.loan(x, 0, 1, 7, 0);
        Check.refused(x, "it is lent still", () -> x.give(1, 1));
        x.days(2);
        Seen.place(x, 0, 0, -1);
        Seen.loan(x, 0, 0, -1, -1);
        Seen.lineEnds(x, 0, 4, 0, 7);
    }

    private static void wearing() {
        Tape x = withPlayers(1);
        x.single(0, false, 1);
        x.single(0, false, 1);
        Check.same("wear", x.wear(0, 1), 1);
        Check.same("wear on", x.wear(0, 98), 99);
        Seen.place(x, 0, 0, -1);
        Check.fails(x, "wear 0", ARGUMENT, () -> x.wear(0, 0));
        Check.fails(x, "wear -1", ARGUMENT, () -> x.wear(0, -1));
        Check.fails(x, "wear 101", ARGUMENT, () -> x.wear(0, 101));
        Check.fails(x, "wear of 2", INDEX, () -> x.wear(2, 1));
        Check.fails(x, "wear of -1", INDEX, () -> x.wear(-1, 1));
        Check.fails(x, "index ahead of argument", INDEX, () -> x.wear(2, 0));
        Check.same("never above 100", x.wear(0, 100), 100);
        Check.same("broken", x.look(0, Seen.OWNER), -1);
        Check.same("its wear", x.look(0, Seen.WEAR), 100);
        Check.idle(x, "no more", -1, () -> x.wear(0, 1));
        Check.fails(x, "argument ahead of broken", ARGUMENT, () -> x.wear(0, 0));
        Check.same("the other one", x.look(1, Seen.WEAR), 0);
        Check.same("all at once", x.wear(1, 100), 100);
        Check.same("broken ones", x.count(4), 2);
    }

    private static void breaking() {
        Tape x = withPlayers(2);
        x.single(0, false, 1);
        x.single(0, true, 2);
        x.single(0, false, 1);
        x.single(0, false, 0);
        x.single(0, true, 0);
        x.put(1, 0);
        x.put(2, 1);
        x.put(3, 2);
        x.put(4, 1);
        x.days(2);
        Check.same("break the middle", x.wear(1, 100), 100);
        Seen.place(x, 0, 0, -1);
        Seen.place(x, 1, -1, -1);
        Seen.place(x, 2, 0, -1);
        Seen.place(x, 3, 0, 2);
        Seen.place(x, 4, 0, -1);
        Check.same("nothing within the first", x.look(0, Seen.ALL_WITHIN), 0);
        Check.same("nothing within it", x.look(1, Seen.ALL_WITHIN), 0);
        for (int i = 0; i < 5; i++) {
            Check.same("no line from breaking", x.look(i, Seen.LENGTH), 1);
        }
        Check.refused(x, "take it", () -> x.take(1));
        Check.same("what was bound within is out", x.give(0, 1), true);
        Check.same("and so is the rest", x.give(2, 1), true);
    }

    private static void breakingWhatIsLent() {
        Tape x = withPlayers(2);
        x.single(0, false, 1);
        x.single(0, false, 0);
        x.put(1, 0);
        x.lend(0, 1, 5);
        x.wear(0, 100);
        Seen.loan(x, 0, 0, -1, -1);
        Check.same("none is lent", x.count(5), 0);
        Seen.place(x, 1, 1, -1);
        x.days(9);
        Seen.place(x, 0, -1, -1);
        Seen.place(x, 1, 1, -1);
        Check.same("its line stays", x.look(0, Seen.LENGTH), 2);
        Check.same("what was within may be given", x.give(1, 0), true);
    }

    private static void daysPass() {
        Tape x = withPlayers(1);
        Check.same("0 days", x.days(0), 0);
        Check.same("1000 days", x.days(1000), 1000);
        Check.same("and 1", x.days(1), 1001);
        Check.same("today", x.count(0), 1001);
        Check.fails(x, "-1 days", ARGUMENT, () -> x.days(-1));
        Check.fails(x, "1001 days", ARGUMENT, () -> x.days(1001));
    }

    private static void looking() {
        Tape x = withPlayers(2);
        x.single(1, false, 2);
        x.single(1, false, 2);
        x.single(1, false, 2);
        x.put(1, 0);
        x.put(2, 1);
        x.wear(0, 30);
        x.lend(0, 0, 12);
        int[] due = {0, -1, 30, 1, 2, 1, 12, 1, 2};
        for (int what = 0; what < due.length; what++) {
            Check.same("look " + what, x.look(0, what), due[what]);
        }
        Check.same("holder", x.look(2, Seen.HOLDER), 1);
        Check.fails(x, "what 9", MISSING, () -> x.look(0, 9));
        Check.fails(x, "what -1", MISSING, () -> x.look(0, -1));
        Check.fails(x, "single 3", INDEX, () -> x.look(3, 0));
        Check.fails(x, "single -1", INDEX, () -> x.look(-1, 0));
        Check.fails(x, "index ahead of what", INDEX, () -> x.look(3, 9));
    }

    private static void lines() {
        Tape x = withPlayers(2);
        x.single(0, false, 0);
        for (int i = 1; i <= 35; i++) {
            x.days(1);
            Check.same("give", x.give(0, i % 2), true);
            Check.same("length", x.look(0, Seen.LENGTH), i + 1);
        }
        for (int k = 0; k < 30; k++) {
            Check.same("player " + k, x.line(0, k, false), k % 2);
            Check.same("day " + k, x.line(0, k, true), k);
        }
        for (int k = 30; k < 40; k++) {
            Check.same("not kept " + k, x.line(0, k, false), -1);
            Check.same("day not kept " + k, x.line(0, k, true), -1);
        }
        Check.same("place -1", x.line(0, -1, false), -1);
        Check.same("the least place", x.line(0, Integer.MIN_VALUE, true), -1);
        Check.same("the largest place", x.line(0, Integer.MAX_VALUE, false), -1);
        Check.fails(x, "line of 1", INDEX, () -> x.line(1, 0, false));
        Check.fails(x, "line of -1", INDEX, () -> x.line(-1, 0, true));
    }
}
