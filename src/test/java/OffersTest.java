/** Promises 17 to 19: offer, agree, withdraw. */
public final class OffersTest {
    private static final Class<IndexOutOfBoundsException> INDEX = IndexOutOfBoundsException.class;
    private static final Class<IllegalArgumentException> ARGUMENT = IllegalArgumentException.class;
    private static final Class<UnsupportedOperationException> FULL = UnsupportedOperationException.class;

    public static void main(String[] args) {
        offerExceptions();
        offerLimit();
        wholeTrade();
        tooFew();
        sameKind();
        singlesThatMayNot();
        oneSingleOnBothSides();
        notedWear();
        orderOfReasons();
        withdrawing();
        Check.end();
    }

    /** Players 0 and 1 with 100 of each kind, and player 2 with nothing. */
    private static Tape withGoods() {
        Tape x = new Tape();
        x.rule(true);
        for (int kind = 0; kind < 4; kind++) {
            x.part(0, kind, true, 1);
        }
        for (int player = 0; player < 3; player++) {
            x.player();
        }
        x.deed(0, 1, 0, 100);
        x.deed(1, 1, 0, 100);
        return x;
    }

    private static void refusedWith(Tape x, int offer, int why) {
        Check.idle(x, "agree to " + offer, why, () -> x.agree(offer));
    }

    private static void offerExceptions() {
        Tape x = withGoods();
        x.single(0, false, 0);
        Check.fails(x, "a is 3", INDEX, () -> x.offer(3, 1, 0, 0, -1, 0, 0, -1));
        Check.fails(x, "a is -1", INDEX, () -> x.offer(-1, 1, 0, 0, -1, 0, 0, -1));
        Check.fails(x, "b is 3", INDEX, () -> x.offer(0, 3, 0, 0, -1, 0, 0, -1));
        Check.fails(x, "b is -1", INDEX, () -> x.offer(0, -1, 0, 0, -1, 0, 0, -1));
        Check.fails(x, "kind 4", INDEX, () -> x.offer(0, 1, 0, 4, -1, 0, 0, -1));
        Check.fails(x, "kind -1", INDEX, () -> x.offer(0, 1, 0, -1, -1, 0, 0, -1));
        Check.fails(x, "forKind 4", INDEX, () -> x.offer(0, 1, 0, 0, -1, 0, 4, -1));
        Check.fails(x, "forKind -1", INDEX, () -> x.offer(0, 1, 0, 0, -1, 0, -1, -1));
        Check.fails(x, "single 1", INDEX, () -> x.offer(0, 1, 0, 0, 1, 0, 0, -1));
        Check.fails(x, "single -2", INDEX, () -> x.offer(0, 1, 0, 0, -2, 0, 0, -1));
        Check.fails(x, "forSingle 1", INDEX, () -> x.offer(0, 1, 0, 0, -1, 0, 0, 1));
        Check.fails(x, "forSingle -2", INDEX, () -> x.offer(0, 1, 0, 0, -1, 0, 0, -2));
        Check.fails(x, "one player", ARGUMENT, () -> x.offer(1, 1, 0, 0, -1, 0, 0, -1));
        Check.fails(x, "many -1", ARGUMENT, () -> x.offer(0, 1, -1, 0, -1, 0, 0, -1));
        Check.fails(x, "many 1000001", ARGUMENT, () -> x.offer(0, 1, 1000001, 0, -1, 0, 0, -1));
        Check.fails(x, "forMany -1", ARGUMENT, () -> x.offer(0, 1, 0, 0, -1, -1, 0, -1));
        Check.fails(x, "forMany 1000001", ARGUMENT, () -> x.offer(0, 1, 0, 0, -1, 1000001, 0, -1));
        Check.fails(x, "index ahead of one player", INDEX, () -> x.offer(0, 0, 0, 0, -1, 0, 0, 1));
        Check.fails(x, "index ahead of a number", INDEX, () -> x.offer(0, 1, -1, 0, -1, 0, 4, -1));
        Check.same("the largest numbers", x.offer(0, 1, 1000000, 3, 0, 1000000, 3, 0), 0);
    }

    private static void offerLimit() {
        Tape x = withGoods();
        for (int i = 0; i < 60; i++) {
            Check.same("offer()", x.offer(0, 1, 0, 0, -1, 0, 0, -1), i);
        }
        x.withdraw(0);
        Check.fails(x, "the 61st", FULL, () -> x.offer(0, 1, 0, 0, -1, 0, 0, -1));
        Check.fails(x, "index ahead of it", INDEX, () -> x.offer(0, 3, 0, 0, -1, 0, 0, -1));
        Check.fails(x, "argument ahead of it", ARGUMENT, () -> x.offer(0, 0, 0, 0, -1, 0, 0, -1));
        Check.same("the last one", x.agree(59), 0);
        Check.same("offers", x.count(6), 60);
        Check.same("open", x.count(7), 58);
        Check.fails(x, "agree to 60", INDEX, () -> x.agree(60));
        Check.fails(x, "agree to -1", INDEX, () -> x.agree(-1));
    }

    private static void wholeTrade() {
        Tape x = withGoods();
        x.single(0, false, 1);
        x.single(0, false, 0);
        x.single(1, false, 0);
        x.put(1, 0);
        x.days(6);
        x.offer(0, 1, 30, 0, 0, 7, 2, 2);
        Check.same("nothing changes hands by telling", x.has(0, 0), 100);
        Check.same("agree", x.agree(0), 0);
        int[] dueOfA = {70, 100, 107, 100};
        int[] dueOfB = {130, 100, 93, 100};
        for (int kind = 0; kind < 4; kind++) {
            Check.same("a has " + kind, x.has(0, kind), dueOfA[kind]);
            Check.same("b has " + kind, x.has(1, kind), dueOfB[kind]);
        }
        int[] owners = {1, 1, 0};
        for (int single = 0; single < 3; single++) {
            Check.same("owner", x.look(single, 0), owners[single]);
            Check.same("length", x.look(single, 8), 2);
            Check.same("line", x.line(single, 1, false), owners[single]);
            Check.same("day", x.line(single, 1, true), 6);
        }
        Check.same("what is within stays within", x.look(1, 1), 0);
        refusedWith(x, 0, 1);
    }

    private static void tooFew() {
        Tape x = withGoods();
        x.offer(0, 1, 101, 1, -1, 0, 0, -1);
        x.offer(0, 1, 0, 0, -1, 101, 1, -1);
        x.offer(0, 1, 101, 1, -1, 101, 1, -1);
        x.offer(0, 2, 100, 1, -1, 1, 1, -1);
        refusedWith(x, 0, 2);
        refusedWith(x, 1, 3);
        refusedWith(x, 2, 2);
        refusedWith(x, 3, 3);
        x.offer(1, 0, 1, 1, -1, 0, 0, -1);
        Check.same("one more for a", x.agree(4), 0);
        Check.same("a refused one is open still", x.agree(0), 0);
        Check.same("all is given", x.has(0, 1), 0);
        Check.same("all is there", x.has(1, 1), 200);
    }

    private static void sameKind() {
        Tape x = withGoods();
        x.offer(0, 1, 100, 3, -1, 40, 3, -1);
        Check.same("agree", x.agree(0), 0);
        Check.same("a has", x.has(0, 3), 40);
        Check.same("b has", x.has(1, 3), 160);
        x.offer(0, 1, 41, 3, -1, 160, 3, -1);
        refusedWith(x, 1, 2);
    }

    private static void singlesThatMayNot() {
        Tape x = withGoods();
        x.single(0, false, 1);
        x.single(0, false, 0);
        x.single(0, true, 0);
        x.single(1, false, 0);
        x.put(1, 0);
        x.offer(0, 1, 0, 0, 3, 0, 0, -1);
        x.offer(0, 1, 0, 0, -1, 0, 0, 0);
        x.offer(0, 1, 0, 0, 1, 0, 0, 3);
        x.offer(1, 0, 0, 0, 3, 0, 0, 1);
        x.offer(0, 1, 0, 0, 2, 0, 0, -1);
        x.offer(1, 0, 0, 0, -1, 0, 0, 2);
        x.offer(0, 1, 0, 0, 0, 0, 0, -1);
        refusedWith(x, 0, 6);
        refusedWith(x, 1, 7);
        refusedWith(x, 2, 6);
        refusedWith(x, 3, 7);
        refusedWith(x, 4, 6);
        refusedWith(x, 5, 7);
        x.take(1);
        x.put(2, 0);
        refusedWith(x, 6, 6);
        x.take(2);
        x.lend(0, 1, 9);
        refusedWith(x, 6, 6);
        refusedWith(x, 1, 7);
        x.days(9);
        x.wear(0, 100);
        refusedWith(x, 6, 6);
        Check.same("out of it, it may", x.agree(2), 0);
        Check.same("owner", x.look(1, 0), 1);
    }

    private static void oneSingleOnBothSides() {
        Tape x = withGoods();
        x.single(0, false, 0);
        x.single(1, false, 0);
        x.offer(0, 1, 0, 0, 0, 0, 0, 0);
        x.offer(0, 1, 0, 0, 1, 0, 0, 1);
        refusedWith(x, 0, 7);
        refusedWith(x, 1, 6);
    }

    private static void notedWear() {
        Tape x = withGoods();
        x.single(0, false, 0);
        x.single(1, false, 0);
        x.wear(0, 5);
        x.offer(0, 1, 0, 0, 0, 0, 0, 1);
        x.offer(0, 1, 1, 0, -1, 0, 0, 1);
        x.offer(0, 1, 0, 0, 0, 1, 0, -1);
        x.wear(1, 1);
        refusedWith(x, 0, 8);
        refusedWith(x, 1, 8);
        Check.same("its wear is as noted", x.agree(2), 0);
        x.offer(1, 0, 0, 0, 0, 1, 0, -1);
        x.wear(0, 1);
        refusedWith(x, 3, 8);
        x.offer(1, 0, 0, 0, 0, 1, 0, -1);
        Check.same("told anew", x.agree(4), 0);
    }

    private static void orderOfReasons() {
        Tape x = withGoods();
        x.single(2, true, 0);
        x.single(0, false, 0);
        x.single(1, false, 0);
        x.offer(0, 1, 101, 0, 0, 101, 0, 0);
        refusedWith(x, 0, 2);
        x.offer(0, 1, 0, 0, 0, 101, 0, 0);
        refusedWith(x, 1, 3);
        x.offer(0, 1, 0, 0, 0, 0, 0, 0);
        refusedWith(x, 2, 6);
        x.offer(0, 1, 0, 0, 1, 0, 0, 0);
        x.wear(1, 1);
        refusedWith(x, 3, 7);
        x.withdraw(0);
        refusedWith(x, 0, 1);
    }

    private static void withdrawing() {
        Tape x = withGoods();
        x.offer(0, 1, 1, 0, -1, 0, 0, -1);
        x.offer(0, 1, 1, 0, -1, 0, 0, -1);
        Check.same("open", x.count(7), 2);
        Check.same("withdraw", x.withdraw(0), true);
        Check.same("open then", x.count(7), 1);
        Check.refused(x, "again", () -> x.withdraw(0));
        refusedWith(x, 0, 1);
        Check.same("agree to the other", x.agree(1), 0);
        Check.refused(x, "what was agreed to", () -> x.withdraw(1));
        Check.same("offers", x.count(6), 2);
        Check.same("none is open", x.count(7), 0);
        Check.fails(x, "withdraw 2", INDEX, () -> x.withdraw(2));
        Check.fails(x, "withdraw -1", INDEX, () -> x.withdraw(-1));
    }
}
