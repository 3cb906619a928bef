/** Promises 17 to 23: rows, purses, and rows too many to try. */
public final class RowTests {
    private static final Due due = new Due();

    public static void main(String[] args) {
        fewHands();
        oneHand();
        manyRows();
        otherRows();
        handsToldLater();
        firstQuestions();
        purses();
        emptyPurse();
        manyWays();
        otherPurses();
        due.end();
    }

    private static HeavierByHand three(int error) {
        HeavierByHand x = new HeavierByHand();
        x.hand(5);
        x.hand(7);
        x.hand(12);
        x.rules(0, error);
        return x;
    }

    private static void fewHands() {
        HeavierByHand x = three(0);
        // 12 is of HAND 2, of 0 and 1, or of 1 and 0; the one who begins is not the first.
        due.is("rows(1, 12, 0, 2)", x.rows(1, 12, 0, 2), 2);
        due.is("rows(0, 12, 0, 2)", x.rows(0, 12, 0, 2), 2);
        due.is("rows(2, 12, 0, 2)", x.rows(2, 12, 0, 2), 2);
        due.is("row(1, 12, 0, 2, -1)", x.row(1, 12, 0, 2, -1), 1);
        due.is("row(1, 12, 0, 2, 0)", x.row(1, 12, 0, 2, 0), 2);
        due.is("row(1, 12, 2, 2, -1)", x.row(1, 12, 2, 2, -1), 2);
        due.is("row(1, 12, 2, 2, 0)", x.row(1, 12, 2, 2, 0), 0);
        due.is("row(1, 12, 2, 2, 1)", x.row(1, 12, 2, 2, 1), 1);
        due.is("row(1, 12, 2, 2, 2)", x.row(1, 12, 2, 2, 2), -1);
        due.is("row(1, 12, 2, 2, -2)", x.row(1, 12, 2, 2, -2), -1);
        due.is("row(2, 12, 2, 2, 0)", x.row(2, 12, 2, 2, 0), 0);
        due.is("among(2, 12, 2, 2, false)", x.among(2, 12, 2, 2, false), 3);
        due.is("among(1, 12, 0, 2, false)", x.among(1, 12, 0, 2, false), 0);
        due.is("among(1, 12, 0, 2, true)", x.among(1, 12, 0, 2, true), 7);
        due.is("rows(0, 10, 2, 2)", x.rows(0, 10, 2, 2), 0);
        due.is("row(0, 10, 2, 2, -1)", x.row(0, 10, 2, 2, -1), -1);
        due.is("row(0, 10, 2, 2, 0)", x.row(0, 10, 2, 2, 0), -1);
        due.is("among(0, 10, 2, 2, false)", x.among(0, 10, 2, 2, false), 0);
        due.is("among(0, 10, 2, 2, true)", x.among(0, 10, 2, 2, true), 0);
        HeavierByHand y = three(2);
        due.is("rows(0, 2, 0, 0)", y.rows(0, 2, 0, 0), 1);
        due.is("rows(0, 3, 0, 0)", y.rows(0, 3, 0, 0), 0);
        due.is("rows(0, 9, 1, 1)", y.rows(0, 9, 1, 1), 1);
        due.is("rows(0, 14, 1, 1)", y.rows(0, 14, 1, 1), 1);
        due.is("rows(0, 15, 1, 1)", y.rows(0, 15, 1, 1), 0);
        due.is("rows(0, 4, 0, 1)", y.rows(0, 4, 0, 1), 0);
        due.is("rows(1, 4, 0, 1)", y.rows(1, 4, 0, 1), 1);
        y.rules(0, 5);
        due.is("row(0, 5, 0, 3, -1)", y.row(0, 5, 0, 3, -1), 0);
        due.is("row(0, 5, 0, 3, 0)", y.row(0, 5, 0, 3, 0), -1);
        due.is("row(0, 5, 1, 3, 0)", y.row(0, 5, 1, 3, 0), 1);
        due.is("among(0, 5, 0, 1, false)", y.among(0, 5, 0, 1, false), 0);
        due.is("among(0, 5, 0, 1, true)", y.among(0, 5, 0, 1, true), 2);
    }

    private static void oneHand() {
        HeavierByHand x = new HeavierByHand();
        due.is("rows without hands", x.rows(0, 0, 0, 0), -1);
        due.is("row without hands", x.row(0, 0, 0, 0, -1), -1);
        due.is("among without hands", x.among(0, 0, 0, 0, true), -1);
        x.hand(30);
        due.is("rows(0, 0, 0, 12)", x.rows(0, 0, 0, 12), 1);
        due.is("rows(0, 30, 0, 12)", x.rows(0, 30, 0, 12), 0);
        due.is("rows(0, 3, 0, 12)", x.rows(0, 3, 0, 12), 1);
        due.is("rows(0, 4, 0, 12)", x.rows(0, 4, 0, 12), 0);
    }

    private static void manyRows() {
        HeavierByHand x = new HeavierByHand();
        for (int i = 0; i < 10; i++) {
            x.hand(30);
        }
        x.rules(0, 0);
        long nine = 1;
        for (int k = 0; k <= 12; k++) {
            due.is("rows of " + k, x.rows(4, 30 * k, k, k), nine);
            due.is("rows of 0 to 12", x.rows(4, 30 * k, 0, 12), nine);
            nine *= 9;
        }
        due.is("rows(4, 361, 0, 12)", x.rows(4, 361, 0, 12), 0);
        x.rules(0, 9);
        due.is("rows(4, 369, 0, 12)", x.rows(4, 369, 0, 12), 282429536481L);
        due.is("rows(4, 370, 0, 12)", x.rows(4, 370, 0, 12), 0);
        due.is("row(0, 360, 0, 12, -1)", x.row(0, 360, 0, 12, -1), 12);
        for (int i = 0; i < 12; i++) {
            due.is("row(0, 360, 0, 12, " + i + ")", x.row(0, 360, 0, 12, i), i % 2 == 0 ? 1 : 0);
        }
        due.is("among all", x.among(0, 360, 0, 12, false), 0);
        due.is("among some", x.among(0, 360, 0, 12, true), 1023);
        HeavierByHand y = new HeavierByHand();
        for (int i = 0; i < 10; i++) {
            y.hand(1);
        }
        y.rules(0, 9);
        // Each sum is the length, 0 to 12, and all of them part from 3 by 9 at most.
        long sum = 0;
        nine = 1;
        for (int k = 0; k <= 12; k++) {
            sum += nine;
            nine *= 9;
        }
        due.is("rows(0, 5, 0, 12)", y.rows(0, 5, 0, 12), sum);
        due.is("rows(0, 3, 0, 12)", y.rows(0, 3, 0, 12), sum);
        due.is("rows(0, 2, 0, 12)", y.rows(0, 2, 0, 12), sum - 282429536481L);
        HeavierByHand z = new HeavierByHand();
        z.hand(30);
        for (int i = 0; i < 9; i++) {
            z.hand(29);
        }
        z.rules(0, 0);
        // 354 is 6 times 30 and 6 times 29, so HAND 0 is in all, six times and never twice behind one another.
        due.is("in all", z.among(1, 354, 12, 12, false), 1);
        due.is("the first", z.row(1, 354, 12, 12, 0), 0);
        due.is("the last", z.row(1, 354, 12, 12, 11), 1);
    }

    private static void otherRows() {
        HeavierByHand x = three(3);
        int[][] others = {{-1, 5, 0, 1}, {3, 5, 0, 1}, {0, -1, 0, 1}, {0, 1000, 0, 1}, {0, 5, -1, 1}, {0, 5, 2, 1},
            {0, 5, 0, 13}, {0, 5, 13, 13}, {0, 5, -2, -1}};
        for (int[] o : others) {
            due.is("rows of others", x.rows(o[0], o[1], o[2], o[3]), -1);
            due.is("row of others", x.row(o[0], o[1], o[2], o[3], -1), -1);
            due.is("row of others", x.row(o[0], o[1], o[2], o[3], 0), -1);
            due.is("among of others", x.among(o[0], o[1], o[2], o[3], false), -1);
            due.is("among of others", x.among(o[0], o[1], o[2], o[3], true), -1);
        }
        due.is("rows(0, 999, 12, 12)", x.rows(0, 999, 12, 12), 0);
    }

    private static void handsToldLater() {
        HeavierByHand x = new HeavierByHand();
        x.rules(0, 0);
        x.hand(5);
        x.image();
        due.is("rows(0, 7, 0, 1)", x.rows(0, 7, 0, 1), 0);
        x.hand(7);
        due.is("rows(0, 7, 0, 1)", x.rows(0, 7, 0, 1), 1);
        x.back();
        due.is("rows(0, 7, 0, 1)", x.rows(0, 7, 0, 1), 0);
        x.hand(8);
        due.is("rows(0, 7, 0, 1)", x.rows(0, 7, 0, 1), 0);
        due.is("rows(0, 8, 0, 1)", x.rows(0, 8, 0, 1), 1);
        due.is("rows(0, 13, 0, 2)", x.rows(0, 13, 0, 2), 1);
        x.purse(0, 8);
        due.is("odds(1, 0, 2, 0)", x.odds(1, 0, 2, 0), 1);
        x.back();
        x.hand(9);
        x.purse(0, 8);
        due.is("odds(1, 0, 2, 0)", x.odds(1, 0, 2, 0), -1);
    }

    /** Each kind of question may be the first one, and a longer one may come behind a shorter one. */
    private static void firstQuestions() {
        due.is("row first", three(0).row(0, 24, 0, 4, -1), 3);
        due.is("row first", three(0).row(0, 24, 0, 4, 2), 2);
        due.is("among first", three(0).among(0, 24, 0, 4, true), 7);
        due.is("among first", three(0).among(0, 24, 3, 3, false), 7);
        HeavierByHand x = three(0);
        x.purse(0, 12);
        due.is("told first", x.told(1, 1), 2);
        HeavierByHand y = three(0);
        y.purse(0, 12);
        due.is("odds first", y.odds(2, 1, 1, 0), 1);
        HeavierByHand z = three(0);
        z.coin(50, 0);
        z.pay(0, 1);
        due.is("of first", z.of(0, 5), 0);
        due.is("rows of 1", z.rows(0, 12, 0, 1), 1);
        due.is("row of 3", z.row(0, 24, 0, 3, 0), 1);
        due.is("among of 4", z.among(0, 24, 4, 4, true), 3);
        due.is("rows of 12", z.rows(0, 72, 12, 12), 1);
        due.is("rows of 1", z.rows(0, 12, 0, 1), 1);
    }

    private static void purses() {
        HeavierByHand x = three(0);
        due.is("purse(0, 12)", x.purse(0, 12), 1);
        // From 0: HAND 2 alone, or 1 and 0.
        due.is("odds(2, 0, 2, 0)", x.odds(2, 0, 2, 0), 1);
        due.is("odds(2, 0, 2, 1)", x.odds(2, 0, 2, 1), 2);
        due.is("told(0, 2)", x.told(0, 2), -1);
        due.is("told(0, 1)", x.told(0, 1), 2);
        due.is("told(2, 2) of two such", x.told(2, 2), -1);
        due.is("purse(1, 12)", x.purse(1, 12), 2);
        due.is("odds(0, 0, 2, 0)", x.odds(0, 0, 2, 0), 1);
        due.is("odds(0, 0, 2, 1)", x.odds(0, 0, 2, 1), 4);
        due.is("purse(1, 12)", x.purse(1, 12), 3);
        due.is("purse(1, 999)", x.purse(1, 999), 4);
        due.is("purse(1, 12)", x.purse(1, 12), -1);
        due.is("about(8)", x.about(8), 4);
        due.is("odds without ways", x.odds(0, 0, 4, 0), -1);
        due.is("odds without ways", x.odds(0, 0, 4, 1), -1);
        due.is("told without ways", x.told(0, 4), -1);
        due.is("purse(-1, 12)", x.purse(-1, 12), 0);
        due.is("about(8)", x.about(8), 0);
        x.rules(0, 5);
        x.purse(0, 5);
        // Of no HANDS, of 1 (7) and none else: 12 is 7 off.
        due.is("odds(1, 0, 1, 0)", x.odds(1, 0, 1, 0), 1);
        due.is("odds(1, 0, 1, 1)", x.odds(1, 0, 1, 1), 2);
        due.is("odds(2, 0, 1, 0)", x.odds(2, 0, 1, 0), 0);
        due.is("odds(2, 0, 1, 1)", x.odds(2, 0, 1, 1), 1);
    }

    private static void emptyPurse() {
        HeavierByHand x = new HeavierByHand();
        due.is("odds without hands", x.odds(0, 0, 0, 0), -1);
        due.is("told without hands", x.told(0, 0), -1);
        x.hand(3);
        due.is("odds(0, 0, 0, 0)", x.odds(0, 0, 0, 0), 1);
        due.is("odds(0, 0, 0, 1)", x.odds(0, 0, 0, 1), 1);
        due.is("told of one hand", x.told(0, 0), 0);
        x.hand(4);
        due.is("told of two hands", x.told(0, 0), -1);
    }

    private static void manyWays() {
        HeavierByHand x = new HeavierByHand();
        for (int i = 0; i < 10; i++) {
            x.hand(1);
        }
        x.rules(0, 9);
        for (int i = 0; i < 4; i++) {
            x.purse(0, 2);
        }
        // 1 + 9 + 9 * 9 + .. ROWS of up to 4 HANDS; without HAND 0, who begins, 9 times 8 ^ (k - 1) of each length k.
        long with = 7381 - (1 + 9 * (1 + 8 + 64 + 512));
        long all = 7381;
        while (gcd(with, all) > 1) {
            long d = gcd(with, all);
            with /= d;
            all /= d;
        }
        due.is("odds(0, 0, 4, 0)", x.odds(0, 0, 4, 0), with * with * with * with);
        due.is("odds(0, 0, 4, 1)", x.odds(0, 0, 4, 1), all * all * all * all);
    }

    private static long gcd(long a, long b) {
        return b == 0 ? a : gcd(b, a % b);
    }

    private static void otherPurses() {
        HeavierByHand x = three(3);
        due.is("purse(3, 5)", x.purse(3, 5), -1);
        due.is("purse(-2, 5)", x.purse(-2, 5), -1);
        due.is("purse(0, -1)", x.purse(0, -1), -1);
        due.is("purse(0, 1000)", x.purse(0, 1000), -1);
        due.is("purse(0, 0)", x.purse(0, 0), 1);
        int[][] others = {{-1, 0, 1, 0}, {3, 0, 1, 0}, {0, -1, 1, 0}, {0, 2, 1, 0}, {0, 0, 5, 0}, {0, 0, 1, 2}, {0, 0, 1, -1}};
        for (int[] o : others) {
            due.is("odds of others", x.odds(o[0], o[1], o[2], o[3]), -1);
        }
        due.is("told(-1, 1)", x.told(-1, 1), -1);
        due.is("told(2, 1)", x.told(2, 1), -1);
        due.is("told(0, 5)", x.told(0, 5), -1);
    }
}
