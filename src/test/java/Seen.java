/** What look and line tell of a single, as the tests of singles ask for it. */
final class Seen {
    static final int OWNER = 0;
    static final int HOLDER = 1;
    static final int WEAR = 2;
    static final int RIGHT_WITHIN = 3;
    static final int ALL_WITHIN = 4;
    static final int LENT = 5;
    static final int UNTIL = 6;
    static final int LENDER = 7;
    static final int LENGTH = 8;

    private Seen() {
    }

    static void place(Tape x, int single, int owner, int holder) {
        Check.same("owner of " + single, x.look(single, OWNER), owner);
        Check.same("holder of " + single, x.look(single, HOLDER), holder);
    }

    static void within(Tape x, int single, int right, int all) {
        Check.same("right within " + single, x.look(single, RIGHT_WITHIN), right);
        Check.same("all within " + single, x.look(single, ALL_WITHIN), all);
    }

    static void loan(Tape x, int single, int lent, int until, int lender) {
        Check.same("lent " + single, x.look(single, LENT), lent);
        Check.same("until " + single, x.look(single, UNTIL), until);
        Check.same("lender of " + single, x.look(single, LENDER), lender);
    }

    static void notLent(Tape x, int single) {
        loan(x, single, 0, -1, -1);
    }

    static void lineEnds(Tape x, int single, int length, int player, int day) {
        Check.same("length of " + single, x.look(single, LENGTH), length);
        Check.same("last of " + single, x.line(single, length - 1, false), player);
        Check.same("last day of " + single, x.line(single, length - 1, true), day);
        Check.same("behind the last of " + single, x.line(single, length, false), -1);
        Check.same("behind the last day of " + single, x.line(single, length, true), -1);
    }
}
