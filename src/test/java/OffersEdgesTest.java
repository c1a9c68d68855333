import java.util.function.Consumer;

/** Promises 17 to 19, at their boundaries: offer, agree, withdraw. */
public final class OffersEdgesTest {
    private static final int KINDS = 4;

    public static void main(String[] args) {
        offerNumbers();
        offerMany();
        offerSingles();
        offerOnePlayer();
        offerLimit();
        offerOrder();
        offerChangesNothingElse();
        agreeNumbers();
        agreeNotOpen();
        agreeTooFew();
        agreeTooFewByTheLargestNumber();
        agreeNothingForNothing();
        agreeOneKindOnBothSides();
        agreeWholly();
        agreeAnothersSingle();
        agreeOneSingleOnBothSides();
        agreeWear();
        agreeWearOfWhatIsBroken();
        agreeOrder();
        agreeLater();
        withdraw();
        Edge.end(17, 18, 19);
    }

    /** Players 0 and 1 with 100 of each kind and a single each, player 2 with a single alone. */
    private static void market(Tape x) {
        Edge.players(x, 3);
        Edge.rule(x, true, 1, 1, 1, 1);
        x.deed(0, 1, 0, 100);
        x.deed(1, 1, 0, 100);
        for (int player = 0; player < 3; player++) {
            x.single(player, false, 1);
        }
    }

    private static void goods(Tape x, int player, int... due) {
        for (int kind = 0; kind < KINDS; kind++) {
            Check.same("has(" + player + ", " + kind + ")", x.has(player, kind), due[kind]);
        }
    }

    private static void refuses(Tape x, int offer, int why) {
        Check.idle(x, "agree", why, () -> x.agree(offer));
    }

    // ---- promise 17

    private static void offerNumbers() {
        Consumer<Tape> scene = OffersEdgesTest::market;
        Edge.numbered(17, "PLAYER a", 3, scene, (x, n) ->
                Check.same("offer", x.offer(n, n == 1 ? 0 : 1, 0, 0, -1, 0, 0, -1), 0));
        Edge.numbered(17, "PLAYER b", 3, scene, (x, n) ->
                Check.same("offer", x.offer(n == 1 ? 0 : 1, n, 0, 0, -1, 0, 0, -1), 0));
        Edge.numbered(17, "KIND of a", KINDS, scene, (x, n) -> {
            Check.same("offer", x.offer(0, 1, 1, n, -1, 0, 0, -1), 0);
            Check.same("agree", x.agree(0), 0);
            Check.same("has", x.has(0, n), 99);
        });
        Edge.numbered(17, "KIND of b", KINDS, scene, (x, n) -> {
            Check.same("offer", x.offer(0, 1, 0, 0, -1, 1, n, -1), 0);
            Check.same("agree", x.agree(0), 0);
            Check.same("has", x.has(0, n), 101);
        });
        Tape nothing = Edge.begin(17, "a KIND is looked at though nothing of it is offered", scene);
        Check.fails(nothing, "KIND 4 of a", Edge.INDEX, () -> nothing.offer(0, 1, 0, 4, 0, 1, 0, -1));
        Check.fails(nothing, "KIND 4 of b", Edge.INDEX, () -> nothing.offer(0, 1, 1, 0, -1, 0, 4, 1));
    }

    private static void offerMany() {
        Consumer<Tape> scene = OffersEdgesTest::market;
        Edge.range(17, "a gives 0 to 1000000", 0, 1000000, scene, (x, n) -> {
            Check.same("offer", x.offer(0, 1, n, 0, -1, 0, 0, -1), 0);
            Check.same("agree", x.agree(0), n <= 100 ? 0 : 2);
        });
        Edge.range(17, "b gives 0 to 1000000", 0, 1000000, scene, (x, n) -> {
            Check.same("offer", x.offer(0, 1, 0, 0, -1, n, 0, -1), 0);
            Check.same("agree", x.agree(0), n <= 100 ? 0 : 3);
        });
    }

    private static void offerSingles() {
        int[] there = {-1, 0, 1, 2};
        for (int single : there) {
            Tape a = Edge.begin(17, "SINGLE of a, " + single + " is one or NONE", OffersEdgesTest::market);
            Check.same("offer", a.offer(0, 1, 0, 0, single, 0, 0, -1), 0);
            Tape b = Edge.begin(17, "SINGLE of b, " + single + " is one or NONE", OffersEdgesTest::market);
            Check.same("offer", b.offer(0, 1, 0, 0, -1, 0, 0, single), 0);
        }
        int[] others = {-2, 3, Integer.MIN_VALUE, Integer.MAX_VALUE};
        for (int single : others) {
            Edge.none(17, "SINGLE of a", single, Edge.INDEX, OffersEdgesTest::market, (x, n) ->
                    x.offer(0, 1, 0, 0, n, 0, 0, -1));
            Edge.none(17, "SINGLE of b", single, Edge.INDEX, OffersEdgesTest::market, (x, n) ->
                    x.offer(0, 1, 0, 0, -1, 0, 0, n));
        }
        Tape none = Edge.begin(17, "there are no SINGLES", x -> Edge.players(x, 2));
        Check.fails(none, "SINGLE 0 of a", Edge.INDEX, () -> none.offer(0, 1, 0, 0, 0, 0, 0, -1));
        Check.fails(none, "SINGLE 0 of b", Edge.INDEX, () -> none.offer(0, 1, 0, 0, -1, 0, 0, 0));
        Check.same("NONE of both", none.offer(0, 1, 0, 0, -1, 0, 0, -1), 0);
        Tape broken = Edge.begin(17, "a BROKEN SINGLE, and another one's, may be offered", OffersEdgesTest::market);
        broken.wear(0, 100);
        Check.same("BROKEN", broken.offer(0, 1, 0, 0, 0, 0, 0, 0), 0);
        Check.same("another one's", broken.offer(0, 1, 0, 0, 2, 0, 0, 2), 1);
    }

    private static void offerOnePlayer() {
        int[] each = {0, 1, 2};
        for (int player : each) {
            Edge.none(17, "PLAYERS that are one", player, Edge.ARGUMENT, OffersEdgesTest::market, (x, n) ->
                    x.offer(n, n, 1, 0, -1, 1, 1, -1));
        }
        Tape more = Edge.begin(17, "more than a has may be offered", OffersEdgesTest::market);
        Check.same("101 of 100", more.offer(0, 1, 101, 0, -1, 101, 0, -1), 0);
    }

    private static void offers(Tape x, int many) {
        market(x);
        for (int i = 0; i < many; i++) {
            Check.same("offer", x.offer(0, 1, 1, 0, -1, 0, 0, -1), i);
        }
    }

    private static void offerLimit() {
        Tape last = Edge.begin(17, "the 60th is one", x -> offers(x, 59));
        Check.same("the 60th", last.offer(1, 0, 7, 3, -1, 0, 0, -1), 59);
        Check.same("count(6)", last.count(6), 60);
        Check.same("count(7)", last.count(7), 60);
        Check.same("agree", last.agree(59), 0);
        Check.same("has", last.has(0, 3), 107);

        Tape full = Edge.begin(17, "there are 60: no 61st", x -> offers(x, 60));
        Check.fails(full, "the 61st", Edge.FULL, () -> full.offer(0, 1, 0, 0, -1, 0, 0, -1));
        Check.fails(full, "agree to it", Edge.INDEX, () -> full.agree(60));

        Tape closed = Edge.begin(17, "those that are not open count among the 60", x -> offers(x, 60));
        closed.withdraw(0);
        closed.agree(1);
        Check.fails(closed, "the 61st", Edge.FULL, () -> closed.offer(0, 1, 0, 0, -1, 0, 0, -1));

        Tape order = Edge.begin(17, "what there is not, and wrong numbers, ahead of the 61st", x -> offers(x, 60));
        Check.fails(order, "PLAYER 3", Edge.INDEX, () -> order.offer(0, 3, 0, 0, -1, 0, 0, -1));
        Check.fails(order, "KIND 4", Edge.INDEX, () -> order.offer(0, 1, 0, 4, -1, 0, 0, -1));
        Check.fails(order, "SINGLE 3", Edge.INDEX, () -> order.offer(0, 1, 0, 0, -1, 0, 0, 3));
        Check.fails(order, "one PLAYER", Edge.ARGUMENT, () -> order.offer(1, 1, 0, 0, -1, 0, 0, -1));
        Check.fails(order, "1000001 of a", Edge.ARGUMENT, () -> order.offer(0, 1, 1000001, 0, -1, 0, 0, -1));
        Check.fails(order, "-1 of b", Edge.ARGUMENT, () -> order.offer(0, 1, 0, 0, -1, -1, 0, -1));
    }

    private static void offerOrder() {
        Tape one = Edge.begin(17, "what there is not ahead of PLAYERS that are one", OffersEdgesTest::market);
        Check.fails(one, "PLAYER 3 twice", Edge.INDEX, () -> one.offer(3, 3, 0, 0, -1, 0, 0, -1));
        Check.fails(one, "KIND 4 of b", Edge.INDEX, () -> one.offer(0, 0, 0, 0, -1, 0, 4, -1));
        Check.fails(one, "SINGLE 3 of b", Edge.INDEX, () -> one.offer(0, 0, 0, 0, -1, 0, 0, 3));
        Tape many = Edge.begin(17, "what there is not ahead of wrong numbers", OffersEdgesTest::market);
        Check.fails(many, "PLAYER b", Edge.INDEX, () -> many.offer(0, 3, -1, 0, -1, 0, 0, -1));
        Check.fails(many, "KIND of a", Edge.INDEX, () -> many.offer(0, 1, -1, 4, -1, 0, 0, -1));
        Check.fails(many, "KIND of b", Edge.INDEX, () -> many.offer(0, 1, -1, 0, -1, 0, 4, -1));
        Check.fails(many, "SINGLE of a", Edge.INDEX, () -> many.offer(0, 1, 1000001, 0, -2, 0, 0, -1));
        Check.fails(many, "SINGLE of b", Edge.INDEX, () -> many.offer(0, 1, 1000001, 0, -1, 0, 0, -2));
    }

    private static void offerChangesNothingElse() {
        Tape x = Edge.begin(17, "by telling it nothing changes hands", OffersEdgesTest::market);
        x.offer(0, 1, 40, 0, 0, 30, 1, 1);
        goods(x, 0, 100, 100, 100, 100);
        goods(x, 1, 100, 100, 100, 100);
        Seen.place(x, 0, 0, -1);
        Seen.place(x, 1, 1, -1);
        Check.same("what is offered is free still", x.give(0, 2), true);
    }

    // ---- promise 18

    private static void agreeNumbers() {
        Edge.numbered(18, "OFFER", 3, x -> offers(x, 3), (x, n) -> Check.same("agree", x.agree(n), 0));
        Edge.numbered(18, "OFFER of 60", 60, x -> offers(x, 60), (x, n) -> Check.same("agree", x.agree(n), 0));
    }

    private static void agreeNotOpen() {
        Tape agreed = Edge.begin(18, "1: it was agreed to", x -> offers(x, 2));
        Check.same("agree", agreed.agree(0), 0);
        refuses(agreed, 0, 1);
        Check.same("the other one is open", agreed.agree(1), 0);
        Tape withdrawn = Edge.begin(18, "1: it was withdrawn", x -> offers(x, 2));
        withdrawn.withdraw(0);
        refuses(withdrawn, 0, 1);
        Check.same("the other one is open", withdrawn.agree(1), 0);
        Tape refused = Edge.begin(18, "a refused one is open still", OffersEdgesTest::market);
        refused.offer(0, 1, 101, 0, -1, 0, 0, -1);
        refuses(refused, 0, 2);
        refuses(refused, 0, 2);
        refused.deed(0, 2, 0, 1);
        Check.same("agree, with enough", refused.agree(0), 0);
    }

    private static void agreeTooFew() {
        int[] numbers = {99, 100, 101};
        for (int many : numbers) {
            for (int kind = 0; kind < KINDS; kind++) {
                Tape a = Edge.begin(18, "2: a has 100 of KIND " + kind + ", " + many + " are due",
                        OffersEdgesTest::market);
                a.offer(0, 1, many, kind, -1, 0, 0, -1);
                few(a, 0, 1, many, kind, 2);
                Tape b = Edge.begin(18, "3: b has 100 of KIND " + kind + ", " + many + " are due",
                        OffersEdgesTest::market);
                b.offer(0, 1, 0, 0, -1, many, kind, -1);
                few(b, 1, 0, many, kind, 3);
            }
        }
    }

    private static void few(Tape x, int giver, int taker, int many, int kind, int why) {
        if (many > 100) {
            refuses(x, 0, why);
        } else {
            Check.same("agree", x.agree(0), 0);
            Check.same("has of the giver", x.has(giver, kind), 100 - many);
            Check.same("has of the taker", x.has(taker, kind), 100 + many);
        }
    }

    private static void agreeTooFewByTheLargestNumber() {
        int[] there = {999999, 1000000, 1000001};
        for (int many : there) {
            Tape x = Edge.begin(18, "1000000 of " + many + " change hands");
            Edge.players(x, 2);
            Edge.rule(x, true, 9, 1);
            Edge.rule(x, true, 1);
            int number = 0;
            int left = many;
            while (left >= 9000) {
                x.deed(0, ++number, 0, 1000);
                left -= 9000;
            }
            while (left > 0) {
                x.deed(0, ++number, 1, Math.min(left, 1000));
                left -= Math.min(left, 1000);
            }
            x.offer(0, 1, 1000000, 0, -1, 0, 0, -1);
            Check.same("agree", x.agree(0), many < 1000000 ? 2 : 0);
            Check.same("has of a", x.has(0, 0), many < 1000000 ? many : many - 1000000);
            Check.same("has of b", x.has(1, 0), many < 1000000 ? 0 : 1000000);
        }
    }

    private static void agreeNothingForNothing() {
        Tape x = Edge.begin(18, "nothing for nothing, by those who have nothing", y -> Edge.players(y, 2));
        x.offer(0, 1, 0, 0, -1, 0, 3, -1);
        Check.same("agree", x.agree(0), 0);
        Check.same("open", x.count(7), 0);
        goods(x, 0, 0, 0, 0, 0);
    }

    private static void agreeOneKindOnBothSides() {
        Tape all = Edge.begin(18, "of one KIND: all for all", OffersEdgesTest::market);
        all.offer(0, 1, 100, 2, -1, 100, 2, -1);
        Check.same("agree", all.agree(0), 0);
        goods(all, 0, 100, 100, 100, 100);
        Tape less = Edge.begin(18, "of one KIND: 100 for 1", OffersEdgesTest::market);
        less.offer(0, 1, 100, 2, -1, 1, 2, -1);
        Check.same("agree", less.agree(0), 0);
        goods(less, 0, 100, 100, 1, 100);
        goods(less, 1, 100, 100, 199, 100);
        Tape a = Edge.begin(18, "of one KIND: what a gets does not help a to give", OffersEdgesTest::market);
        a.offer(0, 1, 101, 2, -1, 100, 2, -1);
        refuses(a, 0, 2);
        Tape b = Edge.begin(18, "of one KIND: what b gets does not help b to give", OffersEdgesTest::market);
        b.offer(0, 1, 100, 2, -1, 101, 2, -1);
        refuses(b, 0, 3);
    }

    private static void agreeWholly() {
        Tape x = Edge.begin(18, "0: all four parts change hands in one", OffersEdgesTest::market);
        x.single(0, true, 0);
        x.single(0, false, 1);
        x.put(4, 0);
        x.days(3);
        x.offer(0, 1, 30, 0, 0, 20, 1, 1);
        x.days(1);
        Check.same("agree", x.agree(0), 0);
        goods(x, 0, 70, 120, 100, 100);
        goods(x, 1, 130, 80, 100, 100);
        Seen.place(x, 0, 1, -1);
        Seen.place(x, 1, 0, -1);
        Seen.place(x, 4, 1, 0);
        Seen.place(x, 3, 0, -1);
        Seen.lineEnds(x, 0, 2, 1, 4);
        Seen.lineEnds(x, 1, 2, 0, 4);
        Seen.lineEnds(x, 4, 2, 1, 4);
        Seen.lineEnds(x, 3, 1, 0, 0);
        Check.same("none is LENT", x.count(5), 0);
        Check.same("no DEED", x.count(8), 2);

        Tape a = Edge.begin(18, "a's SINGLE alone", OffersEdgesTest::market);
        a.offer(0, 1, 0, 0, 0, 0, 0, -1);
        Check.same("agree", a.agree(0), 0);
        Seen.place(a, 0, 1, -1);
        Seen.place(a, 1, 1, -1);
        Tape b = Edge.begin(18, "b's SINGLE alone", OffersEdgesTest::market);
        b.offer(0, 1, 0, 0, -1, 0, 0, 1);
        Check.same("agree", b.agree(0), 0);
        Seen.place(b, 0, 0, -1);
        Seen.place(b, 1, 0, -1);
    }

    private static void agreeAnothersSingle() {
        int[] others = {1, 2};
        for (int single : others) {
            Tape x = Edge.begin(18, "6: a's SINGLE is that of PLAYER " + single, OffersEdgesTest::market);
            x.offer(0, 1, 1, 0, single, 1, 1, -1);
            refuses(x, 0, 6);
        }
        int[] notOfB = {0, 2};
        for (int single : notOfB) {
            Tape x = Edge.begin(18, "7: b's SINGLE is that of PLAYER " + single, OffersEdgesTest::market);
            x.offer(0, 1, 1, 0, -1, 1, 1, single);
            refuses(x, 0, 7);
        }
        Tape gone = Edge.begin(18, "6 and 7: who has it when it is agreed to counts", OffersEdgesTest::market);
        gone.offer(0, 1, 0, 0, 0, 0, 0, -1);
        gone.offer(1, 0, 0, 0, -1, 0, 0, 0);
        gone.offer(2, 1, 0, 0, 0, 0, 0, -1);
        gone.give(0, 2);
        refuses(gone, 0, 6);
        refuses(gone, 1, 7);
        Check.same("whose it is by now", gone.agree(2), 0);
    }

    private static void agreeOneSingleOnBothSides() {
        Tape a = Edge.begin(18, "7: one SINGLE on both sides, a's", OffersEdgesTest::market);
        a.offer(0, 1, 0, 0, 0, 0, 0, 0);
        refuses(a, 0, 7);
        Tape b = Edge.begin(18, "6: one SINGLE on both sides, b's", OffersEdgesTest::market);
        b.offer(0, 1, 0, 0, 1, 0, 0, 1);
        refuses(b, 0, 6);
    }

    private static void agreeWear() {
        int[] wears = {0, 1, 98};
        for (int noted : wears) {
            for (int worn = 0; worn < 2; worn++) {
                Tape x = Edge.begin(18, "8: SINGLE " + worn + " is worn by 1 more than " + noted,
                        OffersEdgesTest::market);
                if (noted > 0) {
                    x.wear(worn, noted);
                }
                x.offer(0, 1, 1, 0, 0, 1, 1, 1);
                int of = worn;
                x.wear(of, 1);
                refuses(x, 0, 8);
                x.offer(0, 1, 1, 0, 0, 1, 1, 1);
                Check.same("told anew", x.agree(1), 0);
            }
        }
        Tape within = Edge.begin(18, "the WEAR of what lies within does not count", OffersEdgesTest::market);
        within.single(0, false, 0);
        within.put(3, 0);
        within.offer(0, 1, 0, 0, 0, 0, 0, -1);
        within.wear(3, 1);
        Check.same("agree", within.agree(0), 0);
        Tape beside = Edge.begin(18, "the WEAR of a SINGLE that is not in it does not count", OffersEdgesTest::market);
        beside.offer(0, 1, 1, 0, -1, 0, 0, -1);
        beside.offer(0, 1, 0, 0, 0, 0, 0, -1);
        beside.wear(1, 50);
        Check.same("without SINGLES", beside.agree(0), 0);
        Check.same("without b's", beside.agree(1), 0);
    }

    private static void agreeWearOfWhatIsBroken() {
        Tape a = Edge.begin(18, "6, not 8: a's SINGLE is BROKEN since", OffersEdgesTest::market);
        a.offer(0, 1, 0, 0, 0, 0, 0, 1);
        a.wear(0, 100);
        refuses(a, 0, 6);
        Tape b = Edge.begin(18, "7, not 8: b's SINGLE is BROKEN since", OffersEdgesTest::market);
        b.offer(0, 1, 0, 0, 0, 0, 0, 1);
        b.wear(1, 100);
        refuses(b, 0, 7);
        Tape told = Edge.begin(18, "6 and 7: it was BROKEN when it was told", OffersEdgesTest::market);
        told.wear(0, 100);
        told.offer(0, 1, 0, 0, 0, 0, 0, -1);
        told.offer(1, 0, 0, 0, -1, 0, 0, 0);
        refuses(told, 0, 6);
        refuses(told, 1, 7);
    }

    /** The first that holds is told: each time the one that was told is mended, and the next one shows. */
    private static void agreeOrder() {
        Tape x = Edge.begin(18, "the first that holds is told", OffersEdgesTest::market);
        x.single(0, true, 0);
        x.offer(0, 1, 101, 0, 0, 101, 1, 1);
        x.wear(0, 1);
        x.put(3, 0);
        x.lend(1, 2, 5);
        refuses(x, 0, 2);
        x.deed(0, 2, 0, 1);
        refuses(x, 0, 3);
        x.deed(1, 2, 0, 1);
        refuses(x, 0, 6);
        x.take(3);
        refuses(x, 0, 7);
        x.days(5);
        refuses(x, 0, 8);
        x.withdraw(0);
        refuses(x, 0, 1);

        Tape closed = Edge.begin(18, "1 ahead of all others", OffersEdgesTest::market);
        closed.offer(0, 1, 101, 0, 2, 101, 1, 2);
        closed.withdraw(0);
        refuses(closed, 0, 1);
        Tape both = Edge.begin(18, "2 ahead of 3", OffersEdgesTest::market);
        both.offer(0, 1, 101, 0, -1, 101, 1, -1);
        refuses(both, 0, 2);
        Tape singles = Edge.begin(18, "6 ahead of 7", OffersEdgesTest::market);
        singles.offer(0, 1, 0, 0, 2, 0, 0, 2);
        refuses(singles, 0, 6);
        Tape worn = Edge.begin(18, "7 ahead of 8", OffersEdgesTest::market);
        worn.offer(0, 1, 0, 0, 0, 0, 0, 2);
        worn.wear(0, 1);
        refuses(worn, 0, 7);
        Tape few = Edge.begin(18, "3 ahead of 6", OffersEdgesTest::market);
        few.offer(0, 1, 0, 0, 2, 101, 0, -1);
        refuses(few, 0, 3);
    }

    private static void agreeLater() {
        Tape x = Edge.begin(18, "1000 days behind its telling", OffersEdgesTest::market);
        x.offer(0, 1, 1, 0, 0, 0, 0, -1);
        x.days(1000);
        Check.same("agree", x.agree(0), 0);
        Seen.lineEnds(x, 0, 2, 1, 1000);
    }

    // ---- promise 19

    private static void withdraw() {
        Edge.numbered(19, "OFFER", 3, x -> offers(x, 3), (x, n) -> Check.same("withdraw", x.withdraw(n), true));
        Edge.numbered(19, "OFFER of 60", 60, x -> offers(x, 60), (x, n) ->
                Check.same("withdraw", x.withdraw(n), true));
        Tape none = Edge.begin(19, "there are no OFFERS", x -> Edge.players(x, 2));
        Check.fails(none, "withdraw(0)", Edge.INDEX, () -> none.withdraw(0));
        Tape open = Edge.begin(19, "it was open", x -> offers(x, 2));
        Check.same("withdraw", open.withdraw(0), true);
        Check.same("open ones", open.count(7), 1);
        Check.same("OFFERS", open.count(6), 2);
        Check.same("has", open.has(0, 0), 100);
        Tape twice = Edge.begin(19, "it was withdrawn", x -> offers(x, 2));
        twice.withdraw(0);
        Check.refused(twice, "withdraw", () -> twice.withdraw(0));
        Tape agreed = Edge.begin(19, "it was agreed to", x -> offers(x, 2));
        agreed.agree(0);
        Check.refused(agreed, "withdraw", () -> agreed.withdraw(0));
        Check.same("what changed hands stays", agreed.has(1, 0), 101);
        Tape refused = Edge.begin(19, "agreeing was refused: it was open", OffersEdgesTest::market);
        refused.offer(0, 1, 101, 0, -1, 0, 0, -1);
        refused.agree(0);
        Check.same("withdraw", refused.withdraw(0), true);
    }
}
