/** The example of README.md, call by call: its answers are what is told beside them. */
public final class ReadmeTest {
    public static void main(String[] args) {
        Tape keeper = new Tape();
        int ann = keeper.player();
        int bob = keeper.player();
        Check.same("ann", ann, 0);
        Check.same("bob", bob, 1);
        goods(keeper, ann);
        int bag = singles(keeper, ann, bob);
        offers(keeper, ann, bob, bag);
        hunt(keeper);
        counts(keeper);
        Check.end();
    }

    private static void goods(Tape keeper, int ann) {
        int mine = keeper.rule(true);
        keeper.part(mine, 0, true, 5);
        Check.same("deed", keeper.deed(ann, 1, mine, 4), 0);
        Check.same("deed sent again", keeper.deed(ann, 1, mine, 4), 0);
        Check.same("has", keeper.has(ann, 0), 20);
        Check.same("sum", keeper.sum(0, false), 20);
    }

    private static int singles(Tape keeper, int ann, int bob) {
        int bag = keeper.single(ann, false, 2);
        int coin = keeper.single(ann, false, 0);
        Check.same("put", keeper.put(coin, bag), true);
        Check.same("lend", keeper.lend(bag, bob, 3), true);
        Check.same("who has the coin meanwhile", keeper.look(coin, 0), bob);
        Check.same("days", keeper.days(3), 3);
        Check.same("who has the bag again", keeper.look(bag, 0), ann);
        Check.same("who had it second", keeper.line(bag, 1, false), bob);
        Check.same("wear", keeper.wear(coin, 100), 100);
        Check.same("right within the bag", keeper.look(bag, 3), 0);
        return bag;
    }

    private static void offers(Tape keeper, int ann, int bob, int bag) {
        int offer = keeper.offer(ann, bob, 10, 0, bag, 0, 0, GoodsKeeper.NONE);
        Check.same("agree", keeper.agree(offer), 0);
        Check.same("agree again", keeper.agree(offer), 1);
        Check.same("withdraw", keeper.withdraw(offer), false);
        Check.same("who has the bag then", keeper.look(bag, 0), bob);
        Check.same("what bob has then", keeper.has(bob, 0), 10);
    }

    private static void hunt(Tape keeper) {
        int melt = keeper.rule(false);
        keeper.part(melt, 0, false, 2);
        keeper.part(melt, 1, true, 3);
        int press = keeper.rule(false);
        keeper.part(press, 1, false, 1);
        keeper.part(press, 0, true, 1);
        Check.same("gains", keeper.gains(), true);
        keeper.times(melt, 1);
        keeper.times(press, 2);
        Check.same("earns", keeper.earns(), true);
        keeper.part(melt, 1, true, 2);
        Check.same("gains no more", keeper.gains(), false);
        for (int kind = 0; kind < 4; kind++) {
            keeper.weigh(kind, 1);
        }
        Check.same("bars", keeper.bars(), true);
    }

    private static void counts(Tape keeper) {
        Check.same("today", keeper.count(0), 3);
        Check.same("deeds that were done", keeper.count(8), 1);
    }
}
