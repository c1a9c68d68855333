/** Promise 25: count. */
public final class CountTest {
    public static void main(String[] args) {
        Tape x = new Tape();
        for (int i = 0; i < 3; i++) {
            x.player();
        }
        for (int i = 0; i < 4; i++) {
            x.rule(i == 0);
        }
        x.part(0, 0, true, 1);
        x.part(1, 0, false, 9);
        for (int i = 0; i < 7; i++) {
            x.single(i % 2, false, 1);
        }
        x.days(9);
        x.wear(0, 100);
        x.wear(1, 100);
        x.wear(2, 99);
        x.lend(3, 0, 12);
        x.lend(4, 1, 10);
        x.lend(5, 2, 11);
        for (int i = 0; i < 6; i++) {
            x.offer(0, 1, 0, 0, -1, i == 5 ? 1 : 0, 0, -1);
        }
        x.withdraw(2);
        x.agree(3);
        x.agree(5);
        x.deed(2, 1, 0, 8);
        x.deed(2, 1, 0, 8);
        x.deed(2, 2, 1, 1);
        x.deed(2, 4, 0, 1);
        x.deed(0, 1, 0, 8);
        counts(x, 9, 3, 4, 7, 2, 3, 6, 4, 2);
        x.days(1);
        counts(x, 10, 3, 4, 7, 2, 2, 6, 4, 2);
        x.wear(5, 100);
        counts(x, 10, 3, 4, 7, 3, 1, 6, 4, 2);
        x.days(1000);
        counts(x, 1010, 3, 4, 7, 3, 0, 6, 4, 2);
        Check.same("count(9)", x.count(9), -1);
        Check.same("count(-1)", x.count(-1), -1);
        Check.same("the least what", x.count(Integer.MIN_VALUE), -1);
        Check.same("the largest what", x.count(Integer.MAX_VALUE), -1);
        Check.end();
    }

    private static void counts(Tape x, int... due) {
        for (int what = 0; what < due.length; what++) {
            Check.same("count(" + what + ")", x.count(what), due[what]);
        }
    }
}
