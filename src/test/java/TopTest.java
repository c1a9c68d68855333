/**
 * Promises 5 and 18 at the top of 1000000000 of a kind. A deed gives 9000 at the most, so the top lies beyond
 * the 512 calls of the promise, and these cases alone go beyond them.
 */
public final class TopTest {
    private static final int TOP = 1000000000;
    private static final int KIND = 1;

    private final GoodsKeeper keeper = new GoodsKeeper();
    private final int[] latest = new int[3];

    private TopTest() {
        for (int player = 0; player < latest.length; player++) {
            keeper.player();
        }
        keeper.rule(true);
    }

    public static void main(String[] args) {
        deedToTheTop();
        deedOfEachKindToTheTop();
        deedTakesFirst();
        deedTooFewAheadOfTooMany();
        deedSentAgain();
        agreeToTheTop(0, 1, 4);
        agreeToTheTop(1, 0, 5);
        agreeTakesFirst(0, 1, 4);
        agreeTakesFirst(1, 0, 5);
        agreeTooManyAheadOfSingles(0, 1, 4);
        agreeTooManyAheadOfSingles(1, 0, 5);
        agreeTooFewAheadOfTooMany();
        agreeTooManyOnBothSides();
        Check.end();
    }

    private int deed(int player, int times) {
        latest[player]++;
        return keeper.deed(player, latest[player], 0, times);
    }

    /** Deeds, until the player has so many of the kind; the rule gives nothing of it then. */
    private void bring(int player, int kind, int many) {
        keeper.part(0, kind, true, 9);
        while (many - keeper.has(player, kind) >= 9000) {
            deed(player, 1000);
        }
        keeper.part(0, kind, true, 1);
        while (many > keeper.has(player, kind)) {
            deed(player, Math.min(1000, many - keeper.has(player, kind)));
        }
        keeper.part(0, kind, true, 0);
    }

    private static TopTest nearTop(String subject, int player, int below) {
        Check.begin(subject);
        TopTest test = new TopTest();
        test.bring(player, KIND, TOP - below);
        Check.same("has", test.keeper.has(player, KIND), TOP - below);
        return test;
    }

    private void refuses(int offer, int why, int... has) {
        int open = keeper.count(7);
        Check.same("agree", keeper.agree(offer), why);
        Check.same("open still", keeper.count(7), open);
        for (int player = 0; player < has.length; player++) {
            Check.same("has of " + player, keeper.has(player, KIND), has[player]);
        }
    }

    private static void deedToTheTop() {
        TopTest test = nearTop("promise 5, at the end at most 1000000000", 0, 2);
        test.keeper.part(0, KIND, true, 1);
        Check.same("one above the top", test.deed(0, 3), 2);
        Check.same("nothing is given", test.keeper.has(0, KIND), TOP - 2);
        Check.same("far above the top", test.deed(0, 1000), 2);
        Check.same("one below the top", test.deed(0, 1), 0);
        Check.same("up to the top", test.deed(0, 1), 0);
        Check.same("the top", test.keeper.has(0, KIND), TOP);
        Check.same("one above it", test.deed(0, 1), 2);
        Check.same("the top still", test.keeper.has(0, KIND), TOP);
        Check.same("made in all", test.keeper.sum(KIND, false), TOP);
        Check.same("another player is not at the top", test.deed(1, 1), 0);
        Check.same("made by both", test.keeper.sum(KIND, false), TOP + 1L);
    }

    private static void deedOfEachKindToTheTop() {
        for (int kind = 0; kind < 4; kind++) {
            Check.begin("promise 5, at the end at most 1000000000 of KIND " + kind);
            TopTest test = new TopTest();
            test.bring(0, kind, TOP);
            for (int other = 0; other < 4; other++) {
                test.keeper.part(0, other, true, other == kind ? 0 : 1);
            }
            Check.same("the others alone", test.deed(0, 1), 0);
            test.keeper.part(0, kind, true, 1);
            Check.same("one above the top", test.deed(0, 1), 2);
            for (int other = 0; other < 4; other++) {
                Check.same("has of " + other, test.keeper.has(0, other), other == kind ? TOP : 1);
            }
        }
    }

    private static void deedTakesFirst() {
        TopTest test = nearTop("promise 5, IN is taken, then OUT is given, at the top", 0, 0);
        test.keeper.part(0, KIND, false, 4);
        test.keeper.part(0, KIND, true, 4);
        Check.same("as much as is taken", test.deed(0, 1000), 0);
        Check.same("has", test.keeper.has(0, KIND), TOP);
        Check.same("made in all", test.keeper.sum(KIND, false), TOP + 4000L);
        Check.same("broken in all", test.keeper.sum(KIND, true), 4000);
        test.keeper.part(0, KIND, true, 5);
        Check.same("one more than is taken", test.deed(0, 1), 2);
        test.keeper.part(0, KIND, true, 3);
        Check.same("one less than is taken", test.deed(0, 1), 0);
        Check.same("has then", test.keeper.has(0, KIND), TOP - 1);
    }

    private static void deedTooFewAheadOfTooMany() {
        TopTest test = nearTop("promise 5, too few ahead of too many", 0, 0);
        test.keeper.part(0, KIND, true, 1);
        test.keeper.part(0, 3, false, 1);
        Check.same("both", test.deed(0, 1), 1);
        test.keeper.part(0, 3, false, 0);
        Check.same("too many alone", test.deed(0, 1), 2);
    }

    private static void deedSentAgain() {
        TopTest test = nearTop("promise 5, too many is answered again when it is sent again", 0, 0);
        test.keeper.part(0, KIND, true, 1);
        Check.same("too many", test.deed(0, 1), 2);
        int number = test.latest[0];
        test.keeper.part(0, KIND, true, 0);
        Check.same("sent again, when it would not be too many", test.keeper.deed(0, number, 0, 1), 2);
        Check.same("the one behind it", test.deed(0, 1), 0);
    }

    /** The offer is of a to b; the one at the top gets some of the kind for nothing. */
    private static void agreeToTheTop(int a, int b, int why) {
        TopTest test = nearTop("promise 18, answer " + why, 0, 1);
        test.bring(1, KIND, 5);
        test.offerForNothing(a, b, 2);
        test.offerForNothing(a, b, 1);
        test.refuses(0, why, TOP - 1, 5);
        Check.same("up to the top", test.keeper.agree(1), 0);
        Check.same("the top", test.keeper.has(0, KIND), TOP);
        Check.same("what is left", test.keeper.has(1, KIND), 4);
    }

    private void offerForNothing(int a, int b, int many) {
        boolean fromA = a == 1;
        keeper.offer(a, b, fromA ? many : 0, fromA ? KIND : 0, -1, fromA ? 0 : many, fromA ? 0 : KIND, -1);
    }

    private static void agreeTakesFirst(int a, int b, int why) {
        TopTest test = nearTop("promise 18, answer " + why + ", one KIND on both sides", 0, 0);
        test.bring(1, KIND, 9);
        int[] fromPoor = {6, 5, 4};
        for (int many : fromPoor) {
            test.keeper.offer(a, b, a == 0 ? 5 : many, KIND, -1, a == 0 ? many : 5, KIND, -1);
        }
        Check.same("one more than is given", test.keeper.agree(0), why);
        Check.same("as much as is given", test.keeper.agree(1), 0);
        Check.same("the top", test.keeper.has(0, KIND), TOP);
        Check.same("one less than is given", test.keeper.agree(2), 0);
        Check.same("one below the top", test.keeper.has(0, KIND), TOP - 1);
        Check.same("the other one has", test.keeper.has(1, KIND), 10);
    }

    private static void agreeTooManyAheadOfSingles(int a, int b, int why) {
        TopTest test = nearTop("promise 18, answer " + why + " ahead of 6 and 7", 0, 0);
        test.bring(1, KIND, 5);
        test.keeper.single(2, false, 0);
        boolean fromA = a == 1;
        test.keeper.offer(a, b, fromA ? 1 : 0, KIND, 0, fromA ? 0 : 1, KIND, 0);
        test.refuses(0, why, TOP, 5);
    }

    private static void agreeTooFewAheadOfTooMany() {
        TopTest test = nearTop("promise 18, answers 2 and 3 ahead of 4 and 5", 0, 0);
        test.bring(1, KIND, 5);
        test.keeper.offer(0, 1, 1, 0, -1, 1, KIND, -1);
        test.keeper.offer(1, 0, 1, KIND, -1, 1, 0, -1);
        test.keeper.offer(0, 1, 0, 0, -1, 6, KIND, -1);
        Check.same("a has too few", test.keeper.agree(0), 2);
        Check.same("b has too few", test.keeper.agree(1), 3);
        Check.same("b has too few of what is too many", test.keeper.agree(2), 3);
    }

    private static void agreeTooManyOnBothSides() {
        TopTest test = nearTop("promise 18, answer 4 ahead of 5", 0, 0);
        test.bring(1, 2, TOP);
        test.bring(0, 2, 1);
        test.bring(1, KIND, 1);
        test.keeper.offer(0, 1, 1, 2, -1, 1, KIND, -1);
        Check.same("both would have too many", test.keeper.agree(0), 4);
        test.keeper.offer(1, 0, 1, KIND, -1, 1, 2, -1);
        Check.same("the other way round", test.keeper.agree(1), 4);
    }
}
