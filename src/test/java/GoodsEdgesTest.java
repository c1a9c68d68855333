import java.util.function.Consumer;

/** Promises 1 to 7, at their boundaries: a new object, player, rule, part, deed, has, sum. */
public final class GoodsEdgesTest {
    private static final int KINDS = 4;
    private static final Consumer<Tape> NOTHING = x -> { };

    public static void main(String[] args) {
        newObject();
        lastPromisedCall();
        players();
        rules();
        partNumbers();
        partsAreApart();
        deedNumbersOfThings();
        deedTimes();
        deedNumberAtFirst();
        deedNumberBehindTheLatest();
        deedNumberBehindRefusals();
        deedSentAgain();
        deedSentAgainWithWrongWords();
        deedTooFew();
        deedTooFewOfOneKind();
        deedTimesIn();
        deedTakesBeforeItGives();
        deedWhollyOrNot();
        deedExceptions();
        has();
        sum();
        sumOfDeedsAlone();
        Edge.end(1, 2, 3, 4, 5, 6, 7);
    }

    // ---- promise 1

    private static void newObject() {
        Tape noPlayers = Edge.begin(1, "there are no PLAYERS");
        Check.same("count(1)", noPlayers.count(1), 0);
        Check.fails(noPlayers, "has(0, 0)", Edge.INDEX, () -> noPlayers.has(0, 0));
        Check.fails(noPlayers, "single(0, false, 0)", Edge.INDEX, () -> noPlayers.single(0, false, 0));
        Check.same("the first one", noPlayers.player(), 0);

        Tape noRules = Edge.begin(1, "there are no RULES", x -> x.player());
        Check.same("count(2)", noRules.count(2), 0);
        Check.fails(noRules, "part(0, 0, false, 0)", Edge.INDEX, () -> noRules.part(0, 0, false, 0));
        Check.fails(noRules, "deed(0, 1, 0, 1)", Edge.INDEX, () -> noRules.deed(0, 1, 0, 1));
        Check.fails(noRules, "times(0, 0)", Edge.INDEX, () -> noRules.times(0, 0));
        Check.same("the first one", noRules.rule(false), 0);

        Tape noSingles = Edge.begin(1, "there are no SINGLES", x -> x.player());
        for (int what = 3; what <= 5; what++) {
            Check.same("count(" + what + ")", noSingles.count(what), 0);
        }
        Check.fails(noSingles, "look(0, 0)", Edge.INDEX, () -> noSingles.look(0, 0));
        Check.fails(noSingles, "take(0)", Edge.INDEX, () -> noSingles.take(0));
        Check.same("the first one", noSingles.single(0, false, 0), 0);

        Tape noOffers = Edge.begin(1, "there are no OFFERS", x -> Edge.players(x, 2));
        Check.same("count(6)", noOffers.count(6), 0);
        Check.same("count(7)", noOffers.count(7), 0);
        Check.fails(noOffers, "agree(0)", Edge.INDEX, () -> noOffers.agree(0));
        Check.fails(noOffers, "withdraw(0)", Edge.INDEX, () -> noOffers.withdraw(0));
        Check.same("the first one", noOffers.offer(0, 1, 0, 0, -1, 0, 0, -1), 0);

        Tape today = Edge.begin(1, "TODAY is 0", x -> x.player());
        Check.same("count(0)", today.count(0), 0);
        today.single(0, false, 0);
        Check.same("the day of a LINE", today.line(0, 0, true), 0);
        Check.same("days(0)", today.days(0), 0);

        Tape first = Edge.begin(1, "it shares nothing with an earlier one", x -> Edge.players(x, 10));
        Tape second = new Tape();
        Check.same("count(1) of the second", second.count(1), 0);
        Check.same("player() of the second", second.player(), 0);
        Check.same("count(1) of the first", first.count(1), 10);
    }

    private static void lastPromisedCall() {
        Tape deeds = Edge.begin(1, "the 512th call is answered: a deed");
        deeds.player();
        Edge.rule(deeds, true, 9);
        for (int number = 1; number <= 508; number++) {
            Check.same("deed " + number, deeds.deed(0, number, 0, 1000), 0);
        }
        Check.same("call 512: has", deeds.has(0, 0), 508 * 9000);
        Check.same("so many calls", deeds.length(), 512);

        Tape lines = Edge.begin(1, "the 512th call is answered: a LINE");
        Edge.players(lines, 2);
        lines.single(0, false, 0);
        for (int i = 1; i <= 508; i++) {
            Check.same("give " + i, lines.give(0, i % 2), true);
        }
        Check.same("call 512: how long it is", lines.look(0, 8), 509);
        Check.same("so many calls", lines.length(), 512);

        Tape days = Edge.begin(1, "the 512th call is answered: the day");
        for (int i = 1; i <= 512; i++) {
            Check.same("days " + i, days.days(1000), i * 1000);
        }
        Check.same("so many calls", days.length(), 512);
    }

    // ---- promises 2 and 3

    private static void players() {
        Tape few = Edge.begin(2, "they are numbered from 0 on");
        Check.same("the first", few.player(), 0);
        Check.same("the second", few.player(), 1);

        Tape tenth = Edge.begin(2, "the 10th is one", x -> Edge.players(x, 9));
        Check.same("the 10th", tenth.player(), 9);
        Check.same("count(1)", tenth.count(1), 10);
        Check.same("has", tenth.has(9, 3), 0);

        Tape full = Edge.begin(2, "there are 10: no 11th", x -> Edge.players(x, 10));
        Check.fails(full, "the 11th", Edge.FULL, full::player);
        Check.fails(full, "once more", Edge.FULL, full::player);
        Check.fails(full, "has of it", Edge.INDEX, () -> full.has(10, 0));

        Tape none = Edge.begin(2, "each KIND is 0 at first", x -> Edge.players(x, 10));
        for (int player = 0; player < 10; player++) {
            for (int kind = 0; kind < KINDS; kind++) {
                Check.same("has(" + player + ", " + kind + ")", none.has(player, kind), 0);
            }
        }
    }

    private static void rules() {
        Tape few = Edge.begin(3, "they are numbered from 0 on");
        Check.same("the first", few.rule(true), 0);
        Check.same("the second", few.rule(false), 1);

        Tape tenth = Edge.begin(3, "the 10th is one", x -> Edge.rules(x, 9));
        Check.same("the 10th", tenth.rule(false), 9);
        Check.same("count(2)", tenth.count(2), 10);
        tenth.part(9, 3, true, 9);

        Tape full = Edge.begin(3, "there are 10: no 11th", x -> Edge.rules(x, 10));
        Check.fails(full, "the 11th", Edge.FULL, () -> full.rule(false));
        Check.fails(full, "the 11th, a SOURCE", Edge.FULL, () -> full.rule(true));
        Check.fails(full, "a part of it", Edge.INDEX, () -> full.part(10, 0, true, 1));

        Tape sources = Edge.begin(3, "SOURCES count among the 10", x -> {
            for (int i = 0; i < 10; i++) {
                x.rule(true);
            }
        });
        Check.fails(sources, "the 11th", Edge.FULL, () -> sources.rule(false));

        Tape empty = Edge.begin(3, "it has no IN and no OUT at first", x -> x.player());
        empty.rule(false);
        Check.same("1000 times of nothing, by one who has nothing", empty.deed(0, 1, 0, 1000), 0);
        for (int kind = 0; kind < KINDS; kind++) {
            Check.same("has of " + kind, empty.has(0, kind), 0);
            Check.same("made of " + kind, empty.sum(kind, false), 0);
            Check.same("broken of " + kind, empty.sum(kind, true), 0);
        }
    }

    // ---- promise 4

    private static void partNumbers() {
        Consumer<Tape> scene = x -> {
            x.player();
            Edge.rules(x, 3);
            x.part(0, 0, true, 9);
            x.deed(0, 1, 0, 1);
            x.part(0, 0, true, 0);
        };
        Edge.numbered(4, "RULE", 3, scene, (x, n) -> x.part(n, 0, true, 1));
        Edge.numbered(4, "KIND of IN", KINDS, scene, (x, n) -> x.part(0, n, false, 1));
        Edge.numbered(4, "KIND of OUT", KINDS, scene, (x, n) -> x.part(0, n, true, 1));
        Edge.range(4, "IN is 0 to 9", 0, 9, scene, (x, n) -> {
            x.part(0, 0, false, n);
            Check.same("deed", x.deed(0, 2, 0, 1), 0);
            Check.same("has", x.has(0, 0), 9 - n);
        });
        Edge.range(4, "OUT is 0 to 9", 0, 9, scene, (x, n) -> {
            x.part(0, 2, true, n);
            Check.same("deed", x.deed(0, 2, 0, 1), 0);
            Check.same("has", x.has(0, 2), n);
        });
        Tape rule = Edge.begin(4, "no RULE ahead of a wrong number", scene);
        Check.fails(rule, "RULE 3 and 10", Edge.INDEX, () -> rule.part(3, 0, true, 10));
        Check.fails(rule, "RULE -1 and -1", Edge.INDEX, () -> rule.part(-1, 0, true, -1));
        Tape kind = Edge.begin(4, "no KIND ahead of a wrong number", scene);
        Check.fails(kind, "KIND 4 and 10", Edge.INDEX, () -> kind.part(0, 4, true, 10));
        Check.fails(kind, "KIND -1 and -1", Edge.INDEX, () -> kind.part(0, -1, false, -1));
    }

    private static void partsAreApart() {
        Tape anew = Edge.begin(4, "told anew it replaces what was told", x -> x.player());
        anew.rule(false);
        anew.part(0, 1, true, 9);
        anew.part(0, 1, true, 2);
        anew.deed(0, 1, 0, 1);
        Check.same("OUT 9, then 2", anew.has(0, 1), 2);
        anew.part(0, 1, false, 9);
        anew.part(0, 1, false, 0);
        Check.same("IN 9, then 0", anew.deed(0, 2, 0, 1), 0);
        Check.same("has", anew.has(0, 1), 4);

        Tape apart = Edge.begin(4, "a KIND of a RULE alone is told", x -> x.player());
        Edge.rules(apart, 2);
        apart.part(0, 2, true, 7);
        Check.same("the other RULE", apart.deed(0, 1, 1, 1), 0);
        Check.same("gives nothing", apart.has(0, 2), 0);
        Check.same("the RULE", apart.deed(0, 2, 0, 1), 0);
        int[] due = {0, 0, 7, 0};
        for (int kind = 0; kind < KINDS; kind++) {
            Check.same("has of " + kind, apart.has(0, kind), due[kind]);
        }
    }

    // ---- promise 5

    /** A source of 1 of each kind, and a rule that takes 2 of kind 0 and gives 3 of kind 1; 10 of each are there. */
    private static void tenOfEach(Tape x) {
        Edge.players(x, 2);
        Edge.rule(x, true, 1, 1, 1, 1);
        Edge.rule(x, false, -2, 3);
        x.deed(0, 1, 0, 10);
    }

    private static void deedNumbersOfThings() {
        Edge.numbered(5, "PLAYER", 2, GoodsEdgesTest::tenOfEach, (x, n) ->
                Check.same("deed", x.deed(n, n == 0 ? 2 : 1, 0, 1), 0));
        Edge.numbered(5, "RULE", 2, GoodsEdgesTest::tenOfEach, (x, n) ->
                Check.same("deed", x.deed(0, 2, n, 1), 0));
        Consumer<Tape> full = x -> {
            Edge.players(x, 10);
            Edge.rules(x, 10);
        };
        Edge.numbered(5, "PLAYER of 10", 10, full, (x, n) -> Check.same("deed", x.deed(n, 1, 0, 1), 0));
        Edge.numbered(5, "RULE of 10", 10, full, (x, n) -> Check.same("deed", x.deed(0, 1, n, 1), 0));
    }

    private static void deedTimes() {
        Edge.range(5, "times are 1 to 1000", 1, 1000, GoodsEdgesTest::tenOfEach, (x, n) -> {
            Check.same("deed", x.deed(0, 2, 0, n), 0);
            Check.same("has", x.has(0, 3), 10 + n);
            Check.same("made", x.sum(3, false), 10 + n);
        });
    }

    private static void deedNumberAtFirst() {
        int[] wrong = {0, 2, -1, 3, Integer.MIN_VALUE, Integer.MAX_VALUE};
        for (int number : wrong) {
            Tape x = Edge.begin(5, "the first number is 1, not " + number, GoodsEdgesTest::tenOfEach);
            Check.idle(x, "deed", 3, () -> x.deed(1, number, 0, 1));
            Check.same("1 is still the first", x.deed(1, 1, 0, 1), 0);
        }
        Tape x = Edge.begin(5, "the first number is 1", GoodsEdgesTest::tenOfEach);
        Check.same("deed", x.deed(1, 1, 0, 1), 0);
        Check.same("has", x.has(1, 0), 1);
    }

    private static void deedNumberBehindTheLatest() {
        int[] wrong = {-3, -1, 0, 1, 2, 5, 6, Integer.MIN_VALUE, Integer.MAX_VALUE};
        for (int number : wrong) {
            Tape x = Edge.begin(5, "behind number 3 comes 4, not " + number, GoodsEdgesTest::tenOfEach);
            x.deed(0, 2, 0, 1);
            x.deed(0, 3, 0, 1);
            Check.idle(x, "deed", 3, () -> x.deed(0, number, 0, 1));
        }
        Tape x = Edge.begin(5, "behind number 3 comes 4", GoodsEdgesTest::tenOfEach);
        x.deed(0, 2, 0, 1);
        x.deed(0, 3, 0, 1);
        Check.same("deed", x.deed(0, 4, 0, 1), 0);
        Check.same("has", x.has(0, 0), 13);

        Tape each = Edge.begin(5, "each PLAYER has numbers of its own", GoodsEdgesTest::tenOfEach);
        Check.idle(each, "the other one's next number", 3, () -> each.deed(1, 2, 0, 1));
        Check.same("its own first number", each.deed(1, 1, 0, 1), 0);
        Check.same("the other one goes on", each.deed(0, 2, 0, 1), 0);
        Check.same("and so does it", each.deed(1, 2, 0, 1), 0);
    }

    private static void deedNumberBehindRefusals() {
        Tape few = Edge.begin(5, "a DEED of too few is the latest one", GoodsEdgesTest::tenOfEach);
        Check.same("too few", few.deed(0, 2, 1, 6), 1);
        Check.idle(few, "its number again", 1, () -> few.deed(0, 2, 1, 1));
        Check.same("the number behind it", few.deed(0, 3, 1, 5), 0);

        Tape wrong = Edge.begin(5, "a wrong number does not become the latest one", GoodsEdgesTest::tenOfEach);
        Check.same("too far", wrong.deed(0, 3, 0, 1), 3);
        Check.idle(wrong, "the same once more", 3, () -> wrong.deed(0, 3, 0, 1));
        Check.idle(wrong, "the number behind that", 3, () -> wrong.deed(0, 4, 0, 1));
        Check.same("the right one", wrong.deed(0, 2, 0, 1), 0);

        Tape thrown = Edge.begin(5, "a DEED that threw is not the latest one", GoodsEdgesTest::tenOfEach);
        Check.fails(thrown, "times 0", Edge.ARGUMENT, () -> thrown.deed(0, 2, 0, 0));
        Check.fails(thrown, "no RULE", Edge.INDEX, () -> thrown.deed(0, 2, 2, 1));
        Check.same("the right one", thrown.deed(0, 2, 0, 1), 0);
    }

    private static void deedSentAgain() {
        Tape done = Edge.begin(5, "sent again behind 0: 0, and nothing is done", GoodsEdgesTest::tenOfEach);
        Check.same("deed", done.deed(0, 2, 0, 5), 0);
        Check.idle(done, "the same", 0, () -> done.deed(0, 2, 0, 5));
        Check.idle(done, "another RULE", 0, () -> done.deed(0, 2, 1, 5));
        Check.idle(done, "other times", 0, () -> done.deed(0, 2, 0, 1000));
        Check.idle(done, "what would be too few", 0, () -> done.deed(0, 2, 1, 1000));
        Check.same("done once", done.has(0, 0), 15);
        Check.same("DEEDS that were done", done.count(8), 2);

        Tape spent = Edge.begin(5, "sent again when all is spent: 0", GoodsEdgesTest::tenOfEach);
        Check.same("all of it", spent.deed(0, 2, 1, 5), 0);
        Check.idle(spent, "again", 0, () -> spent.deed(0, 2, 1, 5));

        Tape few = Edge.begin(5, "sent again behind 1: 1, though enough is there by now", GoodsEdgesTest::tenOfEach);
        Check.same("one too few", few.deed(1, 1, 1, 1), 1);
        few.offer(0, 1, 10, 0, -1, 0, 0, -1);
        Check.same("the other one gives", few.agree(0), 0);
        Check.idle(few, "again", 1, () -> few.deed(1, 1, 1, 1));
        Check.idle(few, "again by a SOURCE", 1, () -> few.deed(1, 1, 0, 1));
        Check.same("a new number", few.deed(1, 2, 1, 5), 0);

        Tape older = Edge.begin(5, "sent again behind the next one: 3", GoodsEdgesTest::tenOfEach);
        Check.same("the second", older.deed(0, 2, 0, 1), 0);
        Check.idle(older, "the first again", 3, () -> older.deed(0, 1, 0, 10));
        Check.idle(older, "the second again", 0, () -> older.deed(0, 2, 0, 1));

        Tape zero = Edge.begin(5, "0 is not the number of a latest one", x -> {
            x.player();
            x.rule(false);
        });
        Check.idle(zero, "deed 0", 3, () -> zero.deed(0, 0, 0, 1));
    }

    /** The document tells the exceptions of every deed, so one that is sent again has them, too. */
    private static void deedSentAgainWithWrongWords() {
        Tape x = Edge.begin(5, "sent again with what there is not", GoodsEdgesTest::tenOfEach);
        Check.fails(x, "no RULE", Edge.INDEX, () -> x.deed(0, 1, 2, 1));
        Check.fails(x, "no times", Edge.ARGUMENT, () -> x.deed(0, 1, 0, 0));
        Check.fails(x, "too many times", Edge.ARGUMENT, () -> x.deed(0, 1, 0, 1001));
    }

    private static void deedTooFew() {
        int[] there = {5, 6, 7};
        for (int many : there) {
            Tape x = Edge.begin(5, "IN of 6 with " + many + " there");
            x.player();
            Edge.rule(x, true, 1);
            Edge.rule(x, false, -2, 3);
            x.deed(0, 1, 0, many);
            boolean enough = many >= 6;
            Check.same("deed", x.deed(0, 2, 1, 3), enough ? 0 : 1);
            Check.same("has of IN", x.has(0, 0), enough ? many - 6 : many);
            Check.same("has of OUT", x.has(0, 1), enough ? 9 : 0);
            Check.same("broken", x.sum(0, true), enough ? 6 : 0);
            Check.same("made", x.sum(1, false), enough ? 9 : 0);
            Check.same("DEEDS that were done", x.count(8), enough ? 2 : 1);
        }
    }

    private static void deedTooFewOfOneKind() {
        for (int kind = 0; kind < KINDS; kind++) {
            Tape x = Edge.begin(5, "one too few of KIND " + kind + " alone");
            x.player();
            Edge.rule(x, true, 9, 9, 9, 9);
            Edge.rule(x, false, -9, -9, -9, -9);
            x.part(0, kind, true, 8);
            x.deed(0, 1, 0, 1);
            Check.same("deed", x.deed(0, 2, 1, 1), 1);
            for (int each = 0; each < KINDS; each++) {
                Check.same("has of " + each, x.has(0, each), each == kind ? 8 : 9);
                Check.same("broken of " + each, x.sum(each, true), 0);
            }
            x.part(1, kind, false, 8);
            Check.same("just enough", x.deed(0, 3, 1, 1), 0);
        }
    }

    private static void deedTimesIn() {
        int[] there = {8999, 9000, 9001};
        for (int many : there) {
            Tape x = Edge.begin(5, "IN of 9, 1000 times, with " + many + " there");
            x.player();
            Edge.rule(x, true, 9);
            Edge.rule(x, true, 1);
            Edge.rule(x, false, -9);
            x.deed(0, 1, 0, 999);
            x.deed(0, 2, 1, many - 8991);
            Check.same("deed", x.deed(0, 3, 2, 1000), many < 9000 ? 1 : 0);
            Check.same("has", x.has(0, 0), many < 9000 ? many : many - 9000);
        }
    }

    private static void deedTakesBeforeItGives() {
        int[] there = {3, 4, 5};
        for (int many : there) {
            Tape x = Edge.begin(5, "OUT of 9 does not help IN of 4 with " + many + " there");
            x.player();
            Edge.rule(x, true, 1);
            Edge.rule(x, false, 9);
            x.part(1, 0, false, 4);
            x.deed(0, 1, 0, many);
            Check.same("deed", x.deed(0, 2, 1, 1), many < 4 ? 1 : 0);
            Check.same("has", x.has(0, 0), many < 4 ? many : many + 5);
        }
        Tape between = Edge.begin(5, "OUT of one time does not help IN of the next", x -> x.player());
        Edge.rule(between, true, 1);
        Edge.rule(between, false, 9);
        between.part(1, 0, false, 1);
        between.deed(0, 1, 0, 1);
        Check.same("twice with IN for one", between.deed(0, 2, 1, 2), 1);
        Check.same("once", between.deed(0, 3, 1, 1), 0);
        Check.same("has", between.has(0, 0), 9);
    }

    private static void deedWhollyOrNot() {
        Tape x = Edge.begin(5, "not for as many times as there is enough", GoodsEdgesTest::tenOfEach);
        Check.same("6 times with IN for 5", x.deed(0, 2, 1, 6), 1);
        Check.same("has of IN", x.has(0, 0), 10);
        Check.same("has of OUT", x.has(0, 1), 10);
        Check.same("made", x.sum(1, false), 10);
        Check.same("broken", x.sum(0, true), 0);
        Check.same("DEEDS that were done", x.count(8), 1);
    }

    private static void deedExceptions() {
        Tape index = Edge.begin(5, "what there is not ahead of times", GoodsEdgesTest::tenOfEach);
        Check.fails(index, "PLAYER 2, times 0", Edge.INDEX, () -> index.deed(2, 1, 0, 0));
        Check.fails(index, "RULE 2, times 1001", Edge.INDEX, () -> index.deed(0, 2, 2, 1001));
        Tape number = Edge.begin(5, "exceptions ahead of a wrong number", GoodsEdgesTest::tenOfEach);
        Check.fails(number, "times 0", Edge.ARGUMENT, () -> number.deed(0, 9, 0, 0));
        Check.fails(number, "RULE 2", Edge.INDEX, () -> number.deed(0, 9, 2, 1));
        Tape few = Edge.begin(5, "times ahead of too few", GoodsEdgesTest::tenOfEach);
        Check.fails(few, "times 1001", Edge.ARGUMENT, () -> few.deed(0, 2, 1, 1001));
        Check.same("1000 times", few.deed(0, 2, 1, 1000), 1);
    }

    // ---- promises 6 and 7

    private static void has() {
        Edge.numbered(6, "PLAYER", 2, GoodsEdgesTest::tenOfEach, (x, n) ->
                Check.same("has", x.has(n, 0), n == 0 ? 10 : 0));
        Edge.numbered(6, "KIND", KINDS, GoodsEdgesTest::tenOfEach, (x, n) -> Check.same("has", x.has(0, n), 10));
        Edge.numbered(6, "PLAYER of 10", 10, x -> Edge.players(x, 10), (x, n) ->
                Check.same("has", x.has(n, 3), 0));
        Tape none = Edge.begin(6, "no PLAYER at all", NOTHING);
        Check.fails(none, "has(0, 0)", Edge.INDEX, () -> none.has(0, 0));
        Tape spent = Edge.begin(6, "down to 0", GoodsEdgesTest::tenOfEach);
        Check.same("deed", spent.deed(0, 2, 1, 5), 0);
        Check.same("has", spent.has(0, 0), 0);
        Tape trade = Edge.begin(6, "down to 0 by a trade", GoodsEdgesTest::tenOfEach);
        trade.offer(0, 1, 10, 2, -1, 0, 0, -1);
        trade.agree(0);
        Check.same("has of the giver", trade.has(0, 2), 0);
        Check.same("has of the taker", trade.has(1, 2), 10);
    }

    private static void sum() {
        Edge.numbered(7, "KIND made", KINDS, GoodsEdgesTest::tenOfEach, (x, n) ->
                Check.same("sum", x.sum(n, false), 10));
        Edge.numbered(7, "KIND broken", KINDS, GoodsEdgesTest::tenOfEach, (x, n) ->
                Check.same("sum", x.sum(n, true), 0));
        Edge.numbered(7, "KIND, without PLAYERS and RULES", KINDS, NOTHING, (x, n) ->
                Check.same("sum", x.sum(n, true) + x.sum(n, false), 0));
        Tape all = Edge.begin(7, "of all PLAYERS and all RULES, SOURCES too", GoodsEdgesTest::tenOfEach);
        all.deed(0, 2, 1, 2);
        all.deed(1, 1, 0, 5);
        all.deed(1, 2, 1, 1);
        Check.same("made of 0", all.sum(0, false), 15);
        Check.same("broken of 0", all.sum(0, true), 6);
        Check.same("made of 1", all.sum(1, false), 24);
        Check.same("broken of 1", all.sum(1, true), 0);
        Tape both = Edge.begin(7, "IN and OUT of one KIND both count", GoodsEdgesTest::tenOfEach);
        both.part(1, 0, true, 2);
        both.deed(0, 2, 1, 5);
        Check.same("has", both.has(0, 0), 10);
        Check.same("made", both.sum(0, false), 20);
        Check.same("broken", both.sum(0, true), 10);
    }

    private static void sumOfDeedsAlone() {
        Tape x = Edge.begin(7, "what is not done, trades and SINGLES count for nothing", GoodsEdgesTest::tenOfEach);
        x.deed(0, 1, 0, 10);
        x.deed(0, 3, 0, 10);
        x.deed(0, 2, 1, 6);
        x.offer(0, 1, 10, 0, -1, 0, 0, -1);
        x.agree(0);
        x.single(0, false, 0);
        x.wear(0, 100);
        Check.same("made", x.sum(0, false), 10);
        Check.same("broken", x.sum(0, true), 0);
        x.part(0, 0, true, 9);
        Check.same("made, when the RULE is told anew", x.sum(0, false), 10);
    }
}
