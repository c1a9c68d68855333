/** Promises 1 to 7: a new object, player, rule, part, deed, has, sum. */
public final class GoodsTest {
    private static final Class<IndexOutOfBoundsException> INDEX = IndexOutOfBoundsException.class;
    private static final Class<IllegalArgumentException> ARGUMENT = IllegalArgumentException.class;
    private static final Class<UnsupportedOperationException> FULL = UnsupportedOperationException.class;

    public static void main(String[] args) {
        newObject();
        players();
        rules();
        parts();
        deeds();
        deedsByKinds();
        deedExceptions();
        deedNumbers();
        sums();
        Check.end();
    }

    private static void newObject() {
        Tape x = new Tape();
        for (int what = 0; what <= 8; what++) {
            Check.same("new count(" + what + ")", x.count(what), 0);
        }
        for (int kind = 0; kind < 4; kind++) {
            Check.same("new sum made", x.sum(kind, false), 0);
            Check.same("new sum broken", x.sum(kind, true), 0);
        }
        Check.same("NONE", GoodsKeeper.NONE, -1);
        Check.fails(x, "has of no player", INDEX, () -> x.has(0, 0));
        Check.fails(x, "look at no single", INDEX, () -> x.look(0, 0));
        Check.fails(x, "agree to no offer", INDEX, () -> x.agree(0));
        Check.fails(x, "times of no rule", INDEX, () -> x.times(0, 0));
    }

    private static void players() {
        Tape x = new Tape();
        for (int i = 0; i < 10; i++) {
            Check.same("player()", x.player(), i);
            for (int kind = 0; kind < 4; kind++) {
                Check.same("has at first", x.has(i, kind), 0);
            }
        }
        Check.fails(x, "the 11th player", FULL, x::player);
        Check.same("players", x.count(1), 10);
    }

    private static void rules() {
        Tape x = new Tape();
        for (int i = 0; i < 10; i++) {
            Check.same("rule()", x.rule(i % 2 == 0), i);
        }
        Check.fails(x, "the 11th rule", FULL, () -> x.rule(false));
        Check.same("rules", x.count(2), 10);
        x.player();
        Check.same("a rule without parts", x.deed(0, 1, 9, 1000), 0);
        for (int kind = 0; kind < 4; kind++) {
            Check.same("has behind it", x.has(0, kind), 0);
        }
    }

    private static void parts() {
        Tape x = new Tape();
        x.player();
        x.rule(false);
        for (int kind = 0; kind < 4; kind++) {
            x.part(0, kind, true, 6 + kind);
        }
        Check.same("deed", x.deed(0, 1, 0, 2), 0);
        for (int kind = 0; kind < 4; kind++) {
            Check.same("OUT twice", x.has(0, kind), 2 * (6 + kind));
        }
        x.part(0, 0, true, 0);
        x.part(0, 0, false, 9);
        x.part(0, 1, true, 1);
        x.part(0, 1, false, 4);
        Check.same("deed with IN", x.deed(0, 2, 0, 1), 0);
        Check.same("IN is taken", x.has(0, 0), 3);
        Check.same("IN and OUT of one kind", x.has(0, 1), 11);
        Check.fails(x, "part of rule -1", INDEX, () -> x.part(-1, 0, true, 1));
        Check.fails(x, "part of rule 1", INDEX, () -> x.part(1, 0, true, 1));
        Check.fails(x, "part of kind -1", INDEX, () -> x.part(0, -1, true, 1));
        Check.fails(x, "part of kind 4", INDEX, () -> x.part(0, 4, false, 1));
        Check.fails(x, "part of -1", ARGUMENT, () -> x.part(0, 0, true, -1));
        Check.fails(x, "part of 10", ARGUMENT, () -> x.part(0, 0, false, 10));
        Check.fails(x, "index ahead of argument", INDEX, () -> x.part(1, 0, true, 10));
        Check.fails(x, "kind ahead of argument", INDEX, () -> x.part(0, 4, true, 10));
        Check.same("too few for IN 9", x.deed(0, 3, 0, 1), 1);
    }

    private static void deeds() {
        Tape x = new Tape();
        x.player();
        x.player();
        x.rule(true);
        x.part(0, 0, true, 5);
        x.rule(false);
        x.part(1, 0, false, 2);
        x.part(1, 1, true, 3);
        Check.same("number 0 ahead of all", x.deed(0, 0, 0, 1), 3);
        Check.same("number 2 ahead of 1", x.deed(0, 2, 0, 1), 3);
        Check.same("number -1", x.deed(0, -1, 0, 1), 3);
        Check.same("nothing was done", x.has(0, 0), 0);
        Check.same("number 1", x.deed(0, 1, 0, 4), 0);
        Check.same("sent again, with other words", x.deed(0, 1, 1, 9), 0);
        Check.same("done once", x.has(0, 0), 20);
        Check.same("too few by 2", x.deed(0, 2, 1, 11), 1);
        Check.same("nothing of it", x.has(0, 1), 0);
        Check.same("nothing is taken", x.has(0, 0), 20);
        Check.same("sent again: as then", x.deed(0, 2, 1, 1), 1);
        Check.same("still nothing", x.has(0, 1), 0);
        Check.same("the next one, with all there is", x.deed(0, 3, 1, 10), 0);
        Check.same("all is taken", x.has(0, 0), 0);
        Check.same("all is given", x.has(0, 1), 30);
        Check.same("an older number", x.deed(0, 2, 0, 1), 3);
        Check.same("one too far", x.deed(0, 5, 0, 1), 3);
        Check.same("the latest stays 3", x.deed(0, 3, 0, 1), 0);
        Check.same("each player has numbers", x.deed(1, 1, 0, 1), 0);
        Check.same("the other one is left alone", x.has(0, 0), 0);
        Check.same("deeds done", x.count(8), 3);
    }

    private static void deedsByKinds() {
        Tape x = new Tape();
        x.player();
        x.rule(true);
        x.part(0, 0, true, 9);
        x.rule(false);
        x.part(1, 0, false, 1);
        x.part(1, 3, false, 1);
        x.rule(false);
        x.part(2, 0, false, 9);
        x.part(2, 0, true, 9);
        Check.same("OUT does not lend to IN", x.deed(0, 1, 2, 1), 1);
        Check.same("source", x.deed(0, 2, 0, 1), 0);
        Check.same("IN is there", x.deed(0, 3, 2, 1), 0);
        Check.same("IN and OUT alike", x.has(0, 0), 9);
        Check.same("too few of the last kind", x.deed(0, 4, 1, 1), 1);
        Check.same("nothing of the first kind is taken", x.has(0, 0), 9);
        Check.same("nothing is broken", x.sum(0, true), 9);
        Check.same("no deed is done", x.count(8), 2);
    }

    private static void deedExceptions() {
        Tape x = new Tape();
        x.player();
        x.rule(false);
        x.part(0, 0, true, 1);
        Check.fails(x, "deed of player 1", INDEX, () -> x.deed(1, 1, 0, 1));
        Check.fails(x, "deed of player -1", INDEX, () -> x.deed(-1, 1, 0, 1));
        Check.fails(x, "deed by rule 1", INDEX, () -> x.deed(0, 1, 1, 1));
        Check.fails(x, "deed by rule -1", INDEX, () -> x.deed(0, 1, -1, 1));
        Check.fails(x, "times 0", ARGUMENT, () -> x.deed(0, 1, 0, 0));
        Check.fails(x, "times -1", ARGUMENT, () -> x.deed(0, 1, 0, -1));
        Check.fails(x, "times 1001", ARGUMENT, () -> x.deed(0, 1, 0, 1001));
        Check.fails(x, "index ahead of times", INDEX, () -> x.deed(0, 1, 1, 0));
        Check.fails(x, "times ahead of a wrong number", ARGUMENT, () -> x.deed(0, 7, 0, 0));
        Check.same("none of these was a deed", x.deed(0, 1, 0, 1000), 0);
        Check.same("has", x.has(0, 0), 1000);
        Check.fails(x, "sent again without a rule", INDEX, () -> x.deed(0, 1, 1, 1));
        Check.fails(x, "sent again without times", ARGUMENT, () -> x.deed(0, 1, 0, 0));
        Check.fails(x, "has of player 1", INDEX, () -> x.has(1, 0));
        Check.fails(x, "has of player -1", INDEX, () -> x.has(-1, 0));
        Check.fails(x, "has of kind 4", INDEX, () -> x.has(0, 4));
        Check.fails(x, "has of kind -1", INDEX, () -> x.has(0, -1));
    }

    private static void deedNumbers() {
        Tape x = new Tape();
        x.player();
        x.rule(false);
        x.part(0, 0, true, 1);
        for (int number = 1; number <= 100; number++) {
            Check.same("deed " + number, x.deed(0, number, 0, 1), 0);
            Check.same("again " + number, x.deed(0, number, 0, 2), 0);
            Check.same("has", x.has(0, 0), number);
        }
        Check.same("a huge number", x.deed(0, Integer.MAX_VALUE, 0, 1), 3);
        Check.same("the least number", x.deed(0, Integer.MIN_VALUE, 0, 1), 3);
    }

    private static void sums() {
        Tape x = new Tape();
        x.player();
        x.player();
        x.rule(true);
        x.part(0, 2, true, 7);
        x.part(0, 3, true, 1);
        x.rule(false);
        x.part(1, 2, false, 3);
        x.part(1, 2, true, 1);
        x.deed(0, 1, 0, 10);
        x.deed(1, 1, 0, 1);
        x.deed(0, 2, 1, 5);
        x.deed(0, 3, 1, 1000);
        x.deed(0, 2, 1, 5);
        Check.same("made of 2", x.sum(2, false), 82);
        Check.same("broken of 2", x.sum(2, true), 15);
        Check.same("made of 3", x.sum(3, false), 11);
        Check.same("broken of 3", x.sum(3, true), 0);
        x.part(0, 2, true, 0);
        Check.same("what was made stays made", x.sum(2, false), 82);
        x.offer(0, 1, 5, 2, -1, 0, 0, -1);
        Check.same("agree", x.agree(0), 0);
        Check.same("trades make nothing", x.sum(2, false), 82);
        Check.same("trades break nothing", x.sum(2, true), 15);
        Check.fails(x, "sum of kind 4", INDEX, () -> x.sum(4, false));
        Check.fails(x, "sum of kind -1", INDEX, () -> x.sum(-1, true));
    }
}
