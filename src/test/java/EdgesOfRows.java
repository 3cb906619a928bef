/** The edges that part III of the terms and promises 17 to 23 name. */
public final class EdgesOfRows {
    private static final int LEAST = Integer.MIN_VALUE;
    private static final int GREATEST = Integer.MAX_VALUE;
    private static final Due due = new Due();

    public static void main(String[] args) {
        byGrainsAsTold();
        byGrainsToldAnew();
        lengths();
        noHands();
        twelveHands();
        begins();
        unlikeTheOneAhead();
        byError();
        gains();
        rowsOfOthers();
        order();
        rowOfNone();
        inAllAndInSome();
        inRowsOfLikeGrains();
        inRowsOfEachLength();
        inNone();
        amongOthers();
        purse();
        purseEmptied();
        purseOfOthers();
        ways();
        fourGains();
        lowestTerms();
        oddsOfOthers();
        withoutWays();
        told();
        toldWithoutWays();
        chosen();
        chosenHeaps();
        due.end();
    }

    private static HeavierByHand exact(int... grains) {
        HeavierByHand x = Worlds.hands(grains);
        x.rules(0, 0);
        return x;
    }

    private static void byGrainsAsTold() {
        due.sentence("ROWS, by GRAINS as told:");
        HeavierByHand x = exact(5, 7);
        Due.tell(x, "glove 1 = 1; grain 50;");
        x.by(0);
        due.is("gives are other ones", x.rows(0, 7, 1, 1), 1);
        due.is("rows(0, 50, 1, 1)", x.rows(0, 50, 1, 1), 0);
        due.is("rows(0, 0, 1, 1)", x.rows(0, 0, 1, 1), 0);
        HeavierByHand y = exact(1, 30);
        due.is("rows of 30", y.rows(0, 30, 1, 1), 1);
        due.is("rows of 1", y.rows(1, 1, 1, 1), 1);
        due.is("rows(0, 31, 2, 2)", y.rows(0, 31, 2, 2), 1);
        // As many as are told now, behind going back, too.
        y.image();
        y.hand(29);
        due.is("rows(0, 29, 1, 1)", y.rows(0, 29, 1, 1), 1);
        y.back();
        due.is("rows(0, 29, 1, 1)", y.rows(0, 29, 1, 1), 0);
        y.hand(28);
        due.is("rows(0, 29, 1, 1)", y.rows(0, 29, 1, 1), 0);
        due.is("rows(0, 28, 1, 1)", y.rows(0, 28, 1, 1), 1);
    }

    /** As many HANDS as before, of other GRAINS: the first, the last or all of them are others. */
    private static void byGrainsToldAnew() {
        due.sentence("ROWS, by GRAINS as told:");
        int[][] anew = {{6, 7}, {5, 8}, {6, 8}};
        for (int[] grains : anew) {
            HeavierByHand x = exact(5, 7);
            due.is("rows(1, 5, 1, 1)", x.rows(1, 5, 1, 1), 1);
            due.is("among(0, 7, 1, 1, true)", x.among(0, 7, 1, 1, true), 2);
            due.is("rows(0, 19, 0, 3)", x.rows(0, 19, 0, 3), 1);
            x.purse(0, 7);
            due.is("odds(1, 1, 1, 0)", x.odds(1, 1, 1, 0), 1);
            x.back();
            x.hand(grains[0]);
            x.hand(grains[1]);
            x.rules(0, 0);
            for (int gain = 0; gain <= 20; gain++) {
                boolean first = gain == grains[0];
                boolean second = gain == grains[1];
                due.is("rows(1, " + gain + ", 1, 1)", x.rows(1, gain, 1, 1), first ? 1 : 0);
                due.is("rows(0, " + gain + ", 1, 1)", x.rows(0, gain, 1, 1), second ? 1 : 0);
                due.is("among(1, " + gain + ", 1, 1, true)", x.among(1, gain, 1, 1, true), first ? 1 : 0);
                due.is("among(0, " + gain + ", 1, 1, false)", x.among(0, gain, 1, 1, false), second ? 2 : 0);
            }
            due.is("rows for all three", x.rows(0, grains[0] + 2 * grains[1], 0, 3), 1);
            x.purse(0, 7);
            due.is("odds(1, 1, 1, 0)", x.odds(1, 1, 1, 0), grains[1] == 7 ? 1 : -1);
        }
    }

    private static void lengths() {
        due.sentence("of k HANDS (low <= k <= high, 0 to 12),");
        // Three HANDS of 1: a ROW of k HANDS weighs k, and there are 2 of one HAND, 4 of two, ..
        HeavierByHand x = exact(1, 1, 1);
        for (int k = 0; k <= 12; k++) {
            due.is("rows of just " + k, x.rows(0, k, k, k), 1L << k);
            due.is("rows of " + k + " among 0 to 12", x.rows(0, k, 0, 12), 1L << k);
            due.is("rows of " + k + " to 12", x.rows(0, k, k, 12), 1L << k);
            due.is("rows of 0 to " + k, x.rows(0, k, 0, k), 1L << k);
            due.is("row of " + k, x.row(0, k, 0, 12, -1), k);
            if (k > 0) {
                due.is("rows of " + k + " below " + k, x.rows(0, k, 0, k - 1), 0);
                due.is("row of " + k + " below " + k, x.row(0, k, 0, k - 1, -1), -1);
            }
            if (k < 12) {
                due.is("rows of " + k + " above " + k, x.rows(0, k, k + 1, 12), 0);
                due.is("row of " + k + " above " + k, x.row(0, k, k + 1, 12, -1), -1);
            }
        }
        x.rules(0, 9);
        due.is("rows of 0 to 12 for 3", x.rows(0, 3, 0, 12), 8191);
        due.is("rows of 4 to 5 for 3", x.rows(0, 3, 4, 5), 48);
    }

    private static void noHands() {
        due.sentence("of k HANDS (low <= k <= high, 0 to 12),");
        HeavierByHand x = exact(5, 7);
        due.is("rows(0, 0, 0, 0)", x.rows(0, 0, 0, 0), 1);
        due.is("rows(0, 1, 0, 0)", x.rows(0, 1, 0, 0), 0);
        due.is("row(0, 0, 0, 0, -1)", x.row(0, 0, 0, 0, -1), 0);
        due.is("row(0, 0, 0, 0, 0)", x.row(0, 0, 0, 0, 0), -1);
        due.is("among(0, 0, 0, 0, false)", x.among(0, 0, 0, 0, false), 0);
        due.is("among(0, 0, 0, 0, true)", x.among(0, 0, 0, 0, true), 0);
        due.is("rows(0, 0, 1, 12)", x.rows(0, 0, 1, 12), 0);
    }

    private static void twelveHands() {
        due.sentence("of k HANDS (low <= k <= high, 0 to 12),");
        HeavierByHand x = exact(30, 30, 30, 30, 30, 30, 30, 30, 30, 30);
        due.is("rows(9, 360, 12, 12)", x.rows(9, 360, 12, 12), 282429536481L);
        due.is("rows(9, 361, 12, 12)", x.rows(9, 361, 12, 12), 0);
        due.is("rows(9, 359, 12, 12)", x.rows(9, 359, 12, 12), 0);
        due.is("rows(9, 330, 0, 11)", x.rows(9, 330, 0, 11), 31381059609L);
        due.is("rows(9, 360, 0, 11)", x.rows(9, 360, 0, 11), 0);
        for (int i = 0; i < 12; i++) {
            due.is("row(9, 360, 12, 12, " + i + ")", x.row(9, 360, 12, 12, i), i % 2);
        }
        due.is("row(9, 360, 12, 12, 12)", x.row(9, 360, 12, 12, 12), -1);
        x.rules(0, 9);
        due.is("among(9, 360, 12, 12, true)", x.among(9, 360, 12, 12, true), 1023);
        due.is("among(9, 360, 12, 12, false)", x.among(9, 360, 12, 12, false), 0);
        due.is("among(9, 370, 12, 12, true)", x.among(9, 370, 12, 12, true), 0);
        due.is("rows(9, 351, 12, 12)", x.rows(9, 351, 12, 12), 282429536481L);
        due.is("rows(9, 350, 12, 12)", x.rows(9, 350, 12, 12), 0);
        due.is("rows(9, 369, 12, 12)", x.rows(9, 369, 12, 12), 282429536481L);
        due.is("rows(9, 370, 12, 12)", x.rows(9, 370, 12, 12), 0);
    }

    private static void begins() {
        due.sentence("the first of them unlike one that begins,");
        HeavierByHand x = exact(5, 7);
        due.is("rows(0, 5, 1, 1)", x.rows(0, 5, 1, 1), 0);
        due.is("rows(1, 5, 1, 1)", x.rows(1, 5, 1, 1), 1);
        due.is("rows(0, 12, 2, 2)", x.rows(0, 12, 2, 2), 1);
        due.is("row(0, 12, 2, 2, 0)", x.row(0, 12, 2, 2, 0), 1);
        due.is("row(0, 12, 2, 2, 1)", x.row(0, 12, 2, 2, 1), 0);
        due.is("row(1, 12, 2, 2, 0)", x.row(1, 12, 2, 2, 0), 0);
        HeavierByHand one = exact(5);
        due.is("rows of one HAND told", one.rows(0, 5, 0, 12), 0);
        due.is("rows of one HAND told, of none", one.rows(0, 0, 0, 12), 1);
        HeavierByHand ten = exact(1, 2, 3, 4, 5, 6, 7, 8, 9, 10);
        for (int begin = 0; begin < 10; begin++) {
            for (int hand = 0; hand < 10; hand++) {
                due.is("rows(" + begin + ", " + (hand + 1) + ", 1, 1)", ten.rows(begin, hand + 1, 1, 1), hand == begin ? 0 : 1);
            }
        }
    }

    private static void unlikeTheOneAhead() {
        due.sentence("each unlike the one ahead,");
        HeavierByHand x = exact(5, 20, 30);
        due.is("rows(1, 10, 2, 2)", x.rows(1, 10, 2, 2), 0);
        due.is("rows(1, 15, 0, 12)", x.rows(1, 15, 0, 12), 0);
        due.is("row(1, 10, 2, 2, -1)", x.row(1, 10, 2, 2, -1), -1);
        due.is("among(1, 10, 2, 2, true)", x.among(1, 10, 2, 2, true), 0);
        due.is("among(1, 10, 2, 2, false)", x.among(1, 10, 2, 2, false), 0);
        due.is("among(1, 35, 3, 3, true)", x.among(1, 35, 3, 3, true), 0);
        due.is("rows(1, 30, 3, 3), 5 20 5", x.rows(1, 30, 3, 3), 1);
        due.is("row(1, 30, 3, 3, 0)", x.row(1, 30, 3, 3, 0), 0);
        due.is("row(1, 30, 3, 3, 1)", x.row(1, 30, 3, 3, 1), 1);
        due.is("row(1, 30, 3, 3, 2)", x.row(1, 30, 3, 3, 2), 0);
        // Two HANDS of like GRAINS are unlike.
        HeavierByHand y = exact(5, 5, 9);
        due.is("rows(2, 10, 2, 2)", y.rows(2, 10, 2, 2), 2);
    }

    private static void byError() {
        due.sentence("whose GRAINS together are a gain, or part from it by ERROR at most.");
        for (int error = 0; error <= 9; error++) {
            HeavierByHand x = Worlds.hands(1, 20);
            x.rules(0, error);
            for (int gain = 0; gain <= 40; gain++) {
                int near = Math.abs(gain - 20) <= error ? 1 : 0;
                due.is("rows(0, " + gain + ", 1, 1) by " + error, x.rows(0, gain, 1, 1), near);
                due.is("row(0, " + gain + ", 1, 1, 0) by " + error, x.row(0, gain, 1, 1, 0), near == 1 ? 1 : -1);
                due.is("among(0, " + gain + ", 1, 1, true) by " + error, x.among(0, gain, 1, 1, true), near == 1 ? 2 : 0);
                due.is("rows(0, " + gain + ", 0, 0) by " + error, x.rows(0, gain, 0, 0), gain <= error ? 1 : 0);
            }
        }
    }

    private static void gains() {
        due.sentence("ROWS for a gain (0 .. 999) from one who begins: how many. NONE for others.");
        HeavierByHand x = Worlds.hands(5, 7);
        due.is("rows(0, 0, 0, 12)", x.rows(0, 0, 0, 12), 1);
        due.is("rows(0, -1, 0, 12)", x.rows(0, -1, 0, 12), -1);
        due.is("rows(0, 999, 0, 12)", x.rows(0, 999, 0, 12), 0);
        due.is("rows(0, 1000, 0, 12)", x.rows(0, 1000, 0, 12), -1);
        due.is("row(0, 999, 0, 12, -1)", x.row(0, 999, 0, 12, -1), -1);
        due.is("among(0, 999, 0, 12, true)", x.among(0, 999, 0, 12, true), 0);
        due.is("among(0, 1000, 0, 12, true)", x.among(0, 1000, 0, 12, true), -1);
        due.is("among(0, 0, 0, 12, true)", x.among(0, 0, 0, 12, true), 0);
        due.is("among(0, -1, 0, 12, true)", x.among(0, -1, 0, 12, true), -1);
    }

    private static void isOther(HeavierByHand x, int begin, int gain, int low, int high) {
        String in = begin + ", " + gain + ", " + low + ", " + high;
        due.is("rows(" + in + ")", x.rows(begin, gain, low, high), -1);
        due.is("row(" + in + ", -1)", x.row(begin, gain, low, high, -1), -1);
        due.is("row(" + in + ", 0)", x.row(begin, gain, low, high, 0), -1);
        due.is("among(" + in + ", false)", x.among(begin, gain, low, high, false), -1);
        due.is("among(" + in + ", true)", x.among(begin, gain, low, high, true), -1);
    }

    private static void rowsOfOthers() {
        due.sentence("ROWS for a gain (0 .. 999) from one who begins: how many. NONE for others.");
        HeavierByHand x = Worlds.hands(5, 7, 12);
        int[] far = {LEAST, GREATEST};
        isOther(x, -1, 5, 0, 12);
        isOther(x, 3, 5, 0, 12);
        isOther(x, 0, -1, 0, 12);
        isOther(x, 0, 1000, 0, 12);
        isOther(x, 0, 5, -1, 12);
        isOther(x, 0, 5, 0, 13);
        isOther(x, 0, 5, 13, 13);
        isOther(x, 0, 5, 1, 0);
        isOther(x, 0, 5, 12, 11);
        isOther(x, 0, 5, -1, -1);
        for (int f : far) {
            isOther(x, f, 5, 0, 12);
            isOther(x, 0, f, 0, 12);
            isOther(x, 0, 5, f, 12);
            isOther(x, 0, 5, 0, f);
            isOther(x, 0, 5, f, f);
        }
        isOther(new HeavierByHand(), 0, 0, 0, 0);
        HeavierByHand ten = Worlds.hands(1, 1, 1, 1, 1, 1, 1, 1, 1, 1);
        due.is("rows(9, 0, 0, 0)", ten.rows(9, 0, 0, 0), 1);
        isOther(ten, 10, 0, 0, 0);
    }

    private static void isRow(HeavierByHand x, int begin, int gain, int... hands) {
        due.is("row(.., -1) for " + gain, x.row(begin, gain, 0, 12, -1), hands.length);
        for (int i = 0; i < hands.length; i++) {
            due.is("row(.., " + i + ") for " + gain, x.row(begin, gain, 0, 12, i), hands[i]);
        }
        due.is("row(.., " + hands.length + ") for " + gain, x.row(begin, gain, 0, 12, hands.length), -1);
    }

    private static void order() {
        due.sentence("Their ORDER: the fewest HANDS first, of as many by the first HAND, then the second, ..");
        HeavierByHand x = exact(5, 7, 12, 5, 7);
        isRow(x, 0, 0);
        isRow(x, 0, 5, 3);
        isRow(x, 1, 5, 0);
        isRow(x, 0, 7, 1);
        isRow(x, 1, 7, 4);
        // 12 is of one HAND, though 0 1 would stand ahead of it by its first HAND.
        isRow(x, 1, 12, 2);
        isRow(x, 2, 12, 0, 1);
        isRow(x, 0, 12, 2);
        isRow(x, 2, 17, 0, 2);
        isRow(x, 0, 17, 2, 0);
        isRow(x, 2, 10, 0, 3);
        isRow(x, 0, 10, 3, 0);
        isRow(x, 2, 14, 1, 4);
        isRow(x, 1, 14, 4, 1);
        isRow(x, 1, 24, 0, 1, 2);
        isRow(x, 0, 24, 1, 0, 2);
        // By ERROR the first may be a lighter or a heavier one.
        x.rules(0, 2);
        isRow(x, 0, 5, 1);
        isRow(x, 1, 7, 0);
        isRow(x, 0, 2);
        isRow(x, 0, 3, 3);
    }

    private static void rowOfNone() {
        due.sentence("The first of these ROWS: how many HANDS (i NONE), the i-th. NONE if there is none such,"
            + " and for others.");
        HeavierByHand x = exact(5, 7);
        due.is("row(0, 6, 0, 12, -1), no ROW", x.row(0, 6, 0, 12, -1), -1);
        due.is("row(0, 6, 0, 12, 0), no ROW", x.row(0, 6, 0, 12, 0), -1);
        due.is("row(0, 12, 0, 12, -1)", x.row(0, 12, 0, 12, -1), 2);
        due.is("row(0, 12, 0, 12, 0)", x.row(0, 12, 0, 12, 0), 1);
        due.is("row(0, 12, 0, 12, 1)", x.row(0, 12, 0, 12, 1), 0);
        for (int i : new int[] {-2, 2, 11, 12, LEAST, GREATEST}) {
            due.is("row(0, 12, 0, 12, " + i + ")", x.row(0, 12, 0, 12, i), -1);
        }
    }

    private static void inAllAndInSome() {
        due.sentence("IN ALL: HANDS (bits) that are in each; IN SOME;");
        HeavierByHand x = exact(5, 7, 12);
        due.is("among(0, 19, 0, 2, false)", x.among(0, 19, 0, 2, false), 6);
        due.is("among(0, 19, 0, 2, true)", x.among(0, 19, 0, 2, true), 6);
        due.is("among(0, 12, 0, 2, false), of 2 and of 1 0", x.among(0, 12, 0, 2, false), 0);
        due.is("among(0, 12, 0, 2, true)", x.among(0, 12, 0, 2, true), 7);
        due.is("among(0, 12, 1, 1, false)", x.among(0, 12, 1, 1, false), 4);
        due.is("among(0, 12, 2, 2, false)", x.among(0, 12, 2, 2, false), 3);
        HeavierByHand ten = exact(30, 1, 1, 1, 1, 1, 1, 1, 1, 30);
        due.is("among of the 10th", ten.among(0, 30, 1, 1, false), 512);
        due.is("among of the 1st", ten.among(9, 30, 1, 1, true), 1);
        due.is("among of the 1st and the 10th", ten.among(1, 30, 1, 1, true), 513);
        due.is("among of all but one", ten.among(0, 1, 1, 1, true), 510);
        ten.rules(0, 9);
        due.is("among of all", ten.among(1, 9, 0, 2, true), 510);
        due.is("among of all", ten.among(1, 30, 1, 3, true), 1023);
    }

    private static void inRowsOfLikeGrains() {
        due.sentence("IN ALL: HANDS (bits) that are in each; IN SOME;");
        HeavierByHand x = exact(1, 1, 1);
        // Of three HANDS from 0: 1 0 1, 1 0 2, 1 2 0, 1 2 1, 2 0 1, 2 0 2, 2 1 0, 2 1 2.
        due.is("among(0, 3, 3, 3, true)", x.among(0, 3, 3, 3, true), 7);
        due.is("among(0, 3, 3, 3, false)", x.among(0, 3, 3, 3, false), 0);
        // From 0 all but it by one HAND, it too by two.
        due.is("among(0, 1, 1, 1, true)", x.among(0, 1, 1, 1, true), 6);
        due.is("among(0, 2, 2, 2, true)", x.among(0, 2, 2, 2, true), 7);
        HeavierByHand y = exact(9, 9, 9, 20);
        // 20 stands once, between, ahead of or behind two of 9: HAND 3 is IN ALL, and no other one.
        due.is("among(3, 38, 3, 3, false)", y.among(3, 38, 3, 3, false), 8);
        due.is("among(3, 38, 3, 3, true)", y.among(3, 38, 3, 3, true), 15);
        due.is("among(0, 47, 4, 4, false)", y.among(0, 47, 4, 4, false), 8);
    }

    /** Two HANDS take turns: from either there is one ROW of each length, and its sum tells which HANDS are in it. */
    private static void inRowsOfEachLength() {
        due.sentence("IN ALL: HANDS (bits) that are in each; IN SOME;");
        HeavierByHand x = exact(29, 30);
        for (int k = 1; k <= 12; k++) {
            int gain = k / 2 * 59 + k % 2 * 30;
            int both = k == 1 ? 2 : 3;
            due.is("rows of " + k, x.rows(0, gain, k, k), 1);
            due.is("in all of " + k, x.among(0, gain, k, k, false), both);
            due.is("in some of " + k, x.among(0, gain, k, k, true), both);
            due.is("in all of 0 to 12, for " + k, x.among(0, gain, 0, 12, false), both);
            due.is("the last of " + k, x.row(0, gain, k, k, k - 1), k % 2);
        }
    }

    private static void inNone() {
        due.sentence("both 0, if there are none.");
        HeavierByHand x = exact(5, 7);
        due.is("among(0, 6, 0, 12, false)", x.among(0, 6, 0, 12, false), 0);
        due.is("among(0, 6, 0, 12, true)", x.among(0, 6, 0, 12, true), 0);
        due.is("among(0, 0, 0, 12, false), of no HANDS", x.among(0, 0, 0, 12, false), 0);
        due.is("among(0, 0, 0, 12, true), of no HANDS", x.among(0, 0, 0, 12, true), 0);
        // The ROW of no HANDS among others: none is IN ALL.
        x.rules(0, 7);
        due.is("among(0, 7, 0, 1, false)", x.among(0, 7, 0, 1, false), 0);
        due.is("among(0, 7, 0, 1, true)", x.among(0, 7, 0, 1, true), 2);
        due.is("among(0, 7, 1, 1, false)", x.among(0, 7, 1, 1, false), 2);
        due.is("among(0, 8, 0, 1, false)", x.among(0, 8, 0, 1, false), 2);
    }

    private static void amongOthers() {
        due.sentence("HANDS (bits) IN ALL of these ROWS (some false), IN SOME (some true). NONE for others.");
        HeavierByHand x = exact(5, 7, 12);
        due.is("among(2, 12, 0, 2, false)", x.among(2, 12, 0, 2, false), 3);
        due.is("among(3, 12, 0, 2, false)", x.among(3, 12, 0, 2, false), -1);
        due.is("among(-1, 12, 0, 2, true)", x.among(-1, 12, 0, 2, true), -1);
        due.is("among(2, 12, 0, 13, true)", x.among(2, 12, 0, 13, true), -1);
        due.is("among(2, 12, 3, 2, false)", x.among(2, 12, 3, 2, false), -1);
    }

    private static void purse() {
        due.sentence("A gain (0 .. 999) more of the PURSE (begin NONE: the PURSE is empty): how many it has.");
        HeavierByHand x = Worlds.hands(5, 7, 12);
        due.is("about(8)", x.about(8), 0);
        due.is("purse(0, 0)", x.purse(0, 0), 1);
        due.is("purse(2, 999)", x.purse(2, 999), 2);
        due.is("purse(0, 0), the same", x.purse(0, 0), 3);
        due.is("purse(1, 5)", x.purse(1, 5), 4);
        due.is("the 5th gain", x.purse(1, 5), -1);
        due.is("about(8)", x.about(8), 4);
    }

    private static void purseEmptied() {
        due.sentence("(begin NONE: the PURSE is empty)");
        HeavierByHand x = Worlds.hands(5, 7, 12);
        due.is("purse(-1, 0) of none", x.purse(-1, 0), 0);
        for (int gain : new int[] {0, 999, 12}) {
            for (int i = 1; i <= 4; i++) {
                due.is("purse(0, 12)", x.purse(0, 12), i);
            }
            due.is("purse(-1, " + gain + ")", x.purse(-1, gain), 0);
            due.is("about(8)", x.about(8), 0);
        }
        due.is("purse(-1, 0) without HANDS", new HeavierByHand().purse(-1, 0), 0);
        // Nothing of what it had is left.
        x.rules(0, 0);
        x.purse(0, 7);
        due.is("odds(1, 1, 1, 0)", x.odds(1, 1, 1, 0), 1);
        due.is("odds(1, 1, 1, 1)", x.odds(1, 1, 1, 1), 1);
        due.is("told(1, 1)", x.told(1, 1), 1);
    }

    private static void purseOfOthers() {
        due.sentence("NONE for others, or if it has 4.");
        HeavierByHand x = Worlds.hands(5, 7, 12);
        for (int begin : new int[] {-2, 3, LEAST, GREATEST}) {
            due.is("purse(" + begin + ", 5)", x.purse(begin, 5), -1);
        }
        for (int gain : new int[] {-1, 1000, LEAST, GREATEST}) {
            due.is("purse(0, " + gain + ")", x.purse(0, gain), -1);
        }
        due.is("about(8)", x.about(8), 0);
        for (int i = 1; i <= 4; i++) {
            due.is("purse(2, 999)", x.purse(2, 999), i);
        }
        due.is("purse(2, 999) of 4", x.purse(2, 999), -1);
        due.is("purse(2, 0) of 4", x.purse(2, 0), -1);
        due.is("about(8)", x.about(8), 4);
    }

    private static void isOdds(HeavierByHand x, int hand, int low, int high, long upper, long lower) {
        String in = hand + ", " + low + ", " + high;
        due.is("odds(" + in + ", 0)", x.odds(hand, low, high, 0), upper);
        due.is("odds(" + in + ", 1)", x.odds(hand, low, high, 1), lower);
    }

    private static void ways() {
        due.sentence("its WAYS: for each a ROW of low to high HANDS (4 at most), all such together.");
        HeavierByHand x = exact(1, 1, 1);
        // Of k HANDS there are 2 ^ k from any; without HAND 1, from HAND 0: 1 of each length.
        for (int k = 1; k <= 4; k++) {
            x.purse(-1, 0);
            x.purse(0, k);
            long all = 1L << k;
            long upper = all - 1;
            isOdds(x, 1, k, k, upper, all);
            isOdds(x, 1, 0, 4, upper, all);
            isOdds(x, 1, k, 4, upper, all);
            isOdds(x, 1, 0, k, upper, all);
            due.is("odds below " + k, x.odds(1, 0, k - 1, 1), -1);
            if (k < 4) {
                due.is("odds above " + k, x.odds(1, k + 1, 4, 1), -1);
            }
        }
        // A ROW of no HANDS is a WAY, in which nobody is.
        x.purse(-1, 0);
        x.purse(0, 0);
        isOdds(x, 1, 0, 0, 0, 1);
        isOdds(x, 1, 0, 4, 0, 1);
        due.is("odds(1, 1, 4, 1)", x.odds(1, 1, 4, 1), -1);
        // The empty PURSE has one WAY, and each HAND is in each of its no ROWS.
        x.purse(-1, 0);
        isOdds(x, 1, 0, 0, 1, 1);
        isOdds(x, 2, 4, 4, 1, 1);
    }

    private static void fourGains() {
        due.sentence("A PURSE (4 gains at most, each with who begins):");
        HeavierByHand x = exact(5, 7, 12);
        // From 0: 2 alone, or 1 0; from 2: 0 1, or 1 0; from 1: 2 alone, or 0 1.
        int[] begins = {0, 2, 1, 0};
        long upper = 1;
        long lower = 1;
        for (int i = 0; i < 4; i++) {
            x.purse(begins[i], 12);
            long in = begins[i] == 2 ? 2 : 1;
            upper *= in;
            lower *= 2;
            long shared = upper;
            isOdds(x, 0, 0, 4, upper / shared, lower / shared);
            isOdds(x, 1, 0, 4, upper / shared, lower / shared);
        }
        isOdds(x, 2, 0, 4, 0, 1);
        HeavierByHand ten = Worlds.hands(1, 1, 1, 1, 1, 1, 1, 1, 1, 1);
        ten.rules(0, 9);
        for (int i = 0; i < 4; i++) {
            ten.purse(i, 4);
        }
        // Of 0 to 4 HANDS 1 + 9 + 81 + 729 + 6561 ROWS for each gain.
        long rows = 7381;
        // Without the last HAND, which never begins: 1 + 8 + 64 + 512 + 4096.
        long with = rows - 4681;
        // 2700 and 7381 (11 * 11 * 61) have no divisor in common.
        isOdds(ten, 9, 0, 4, with * with * with * with, rows * rows * rows * rows);
    }

    private static void lowestTerms() {
        due.sentence("ODDS of a HAND: of all WAYS those in which it is in each ROW, in lowest terms.");
        HeavierByHand x = exact(1, 1, 1, 1, 1);
        x.purse(0, 1);
        isOdds(x, 0, 1, 1, 0, 1);
        isOdds(x, 1, 1, 1, 1, 4);
        x.purse(0, 2);
        // Of 16 ROWS of two HANDS from 0: with HAND 1: 4 begin with it, and 3 end with it.
        isOdds(x, 1, 1, 2, 7, 64);
        x.purse(-1, 0);
        x.purse(0, 2);
        // With HAND 0: 4 of 16.
        isOdds(x, 0, 2, 2, 1, 4);
        x.purse(0, 2);
        isOdds(x, 0, 2, 2, 1, 16);
        HeavierByHand y = exact(5, 7);
        y.purse(0, 7);
        isOdds(y, 1, 0, 4, 1, 1);
        isOdds(y, 0, 0, 4, 0, 1);
    }

    private static void oddsOfOthers() {
        due.sentence("ODDS of a HAND (high 4 at most): the upper (0), the lower one (1). NONE for others,"
            + " and without WAYS.");
        HeavierByHand x = exact(5, 7, 12);
        x.purse(0, 12);
        isOdds(x, 2, 0, 4, 1, 2);
        isOdds(x, 2, 0, 1, 1, 1);
        due.is("odds(2, 0, 5, 0)", x.odds(2, 0, 5, 0), -1);
        due.is("odds(2, 5, 5, 0)", x.odds(2, 5, 5, 0), -1);
        due.is("odds(2, -1, 4, 0)", x.odds(2, -1, 4, 0), -1);
        due.is("odds(2, 2, 1, 0)", x.odds(2, 2, 1, 0), -1);
        due.is("odds(2, -1, -1, 0)", x.odds(2, -1, -1, 0), -1);
        due.is("odds(-1, 0, 4, 0)", x.odds(-1, 0, 4, 0), -1);
        due.is("odds(3, 0, 4, 0)", x.odds(3, 0, 4, 0), -1);
        due.is("odds(2, 0, 4, -1)", x.odds(2, 0, 4, -1), -1);
        due.is("odds(2, 0, 4, 2)", x.odds(2, 0, 4, 2), -1);
        for (int far : new int[] {LEAST, GREATEST}) {
            due.is("odds(" + far + ", 0, 4, 0)", x.odds(far, 0, 4, 0), -1);
            due.is("odds(2, " + far + ", 4, 0)", x.odds(2, far, 4, 0), -1);
            due.is("odds(2, 0, " + far + ", 0)", x.odds(2, 0, far, 0), -1);
            due.is("odds(2, 0, 4, " + far + ")", x.odds(2, 0, 4, far), -1);
        }
    }

    private static void withoutWays() {
        due.sentence("NONE for others, and without WAYS.");
        HeavierByHand x = exact(5, 7, 12);
        x.purse(0, 12);
        x.purse(0, 6);
        for (int hand = 0; hand < 3; hand++) {
            due.is("odds(" + hand + ", 0, 4, 0)", x.odds(hand, 0, 4, 0), -1);
            due.is("odds(" + hand + ", 0, 4, 1)", x.odds(hand, 0, 4, 1), -1);
        }
        x.rules(0, 1);
        due.is("odds(1, 1, 1, 1)", x.odds(1, 1, 1, 1), 1);
        x.purse(0, 999);
        due.is("odds(1, 1, 1, 1)", x.odds(1, 1, 1, 1), -1);
    }

    private static void told() {
        due.sentence("TOLD (high 4 at most). NONE: none, and for others.");
        HeavierByHand x = exact(5, 7, 12);
        x.purse(0, 12);
        due.is("told(1, 1)", x.told(1, 1), 2);
        due.is("told(0, 1)", x.told(0, 1), 2);
        due.is("told(2, 2), two such", x.told(2, 2), -1);
        due.is("told(0, 2), none such", x.told(0, 2), -1);
        due.is("told(0, 4)", x.told(0, 4), -1);
        for (int[] o : new int[][] {{0, 5}, {5, 5}, {-1, 1}, {2, 1}, {-1, -1}, {LEAST, 1}, {0, LEAST}, {0, GREATEST},
            {GREATEST, 1}}) {
            due.is("told(" + o[0] + ", " + o[1] + ")", x.told(o[0], o[1]), -1);
        }
        HeavierByHand ten = exact(30, 1, 1, 1, 1, 1, 1, 1, 1, 29);
        ten.purse(1, 30);
        due.is("told of the 1st", ten.told(1, 1), 0);
        ten.purse(-1, 0);
        ten.purse(1, 29);
        due.is("told of the 10th", ten.told(1, 1), 9);
        HeavierByHand four = exact(1, 30);
        four.purse(1, 62);
        due.is("told(4, 4), two such", four.told(4, 4), -1);
    }

    private static void toldWithoutWays() {
        due.sentence("TOLD: the HAND that is in each ROW of all WAYS, if there is just one such, and there are WAYS.");
        HeavierByHand x = exact(5, 7, 12);
        due.is("told(0, 4) of an empty PURSE, three such", x.told(0, 4), -1);
        due.is("told of an empty PURSE, one such", exact(5).told(0, 4), 0);
        due.is("told without HANDS", new HeavierByHand().told(0, 4), -1);
        x.purse(0, 12);
        x.purse(1, 5);
        due.is("told(1, 1), none in both", x.told(1, 1), -1);
        x.purse(-1, 0);
        x.purse(0, 12);
        x.purse(1, 12);
        due.is("told(1, 1)", x.told(1, 1), 2);
        x.purse(0, 6);
        due.is("told(1, 1) without WAYS", x.told(1, 1), -1);
        HeavierByHand one = exact(5);
        one.purse(0, 5);
        due.is("told of one HAND without WAYS", one.told(0, 4), -1);
        one.purse(-1, 0);
        one.purse(0, 0);
        due.is("told of one HAND that is in no ROW", one.told(0, 4), -1);
        // Three gains: all of the two in all ROWS of the first leave one behind the second.
        HeavierByHand y = exact(5, 7, 12);
        y.purse(0, 19);
        due.is("told(2, 2) of 1 and 2", y.told(2, 2), -1);
        y.purse(1, 17);
        due.is("told(2, 2) of 2", y.told(2, 2), 2);
    }

    private static void chosen() {
        due.sentence("CHOSEN: the i-th GRAIN (from 0). NONE: there is none such, and for others.");
        HeavierByHand x = new HeavierByHand();
        for (int n = 2; n <= 5; n++) {
            for (int k = 1; k <= 3; k++) {
                due.is("chosen(" + n + ", " + k + ", -1)", x.chosen(n, k, -1), -1);
                due.is("chosen(" + n + ", " + k + ", 0) is", x.chosen(n, k, 0) >= 1, true);
                due.is("chosen(" + n + ", " + k + ", n - 1) is", x.chosen(n, k, n - 1) >= n, true);
                due.is("chosen(" + n + ", " + k + ", n)", x.chosen(n, k, n), -1);
                due.is("chosen(" + n + ", " + k + ", 4)", x.chosen(n, k, 4) != -1, n == 5);
            }
            due.is("chosen(" + n + ", 0, 0)", x.chosen(n, 0, 0), -1);
            due.is("chosen(" + n + ", 4, 0)", x.chosen(n, 4, 0), -1);
        }
        for (int k = 0; k <= 4; k++) {
            due.is("chosen(1, " + k + ", 0)", x.chosen(1, k, 0), -1);
            due.is("chosen(6, " + k + ", 0)", x.chosen(6, k, 0), -1);
        }
        for (int far : new int[] {LEAST, GREATEST}) {
            due.is("chosen(" + far + ", 1, 0)", x.chosen(far, 1, 0), -1);
            due.is("chosen(2, " + far + ", 0)", x.chosen(2, far, 0), -1);
            due.is("chosen(2, 1, " + far + ")", x.chosen(2, 1, far), -1);
        }
    }

    /** That no other ones are less is found by ChosenSearch, which tries all. */
    private static void chosenHeaps() {
        due.sentence("CHOSEN for n HANDS (2 to 5) and k (1 to 3): GRAINS g0 < g1 < .., so that of all heaps of 1 to k"
            + " HANDS (the same more than once, too) no two weigh alike; the greatest GRAIN is least (60 at most);"
            + " of like ones the least g0, then g1, ..");
        HeavierByHand x = new HeavierByHand();
        for (int n = 2; n <= 5; n++) {
            for (int k = 1; k <= 3; k++) {
                int[] grains = new int[n];
                for (int i = 0; i < n; i++) {
                    grains[i] = x.chosen(n, k, i);
                    due.is("g" + i + " is above the one ahead", grains[i] > (i == 0 ? 0 : grains[i - 1]), true);
                }
                due.is("60 at most", grains[n - 1] <= 60, true);
                due.is("no two heaps of " + n + ", " + k + " weigh alike", alike(grains, 0, 0, k, new int[181]), 0);
            }
        }
        // 1 2 3 .. for heaps of one; 1 and k + 1 for two HANDS.
        for (int i = 0; i < 5; i++) {
            due.is("chosen(5, 1, " + i + ")", x.chosen(5, 1, i), i + 1);
        }
        for (int k = 1; k <= 3; k++) {
            due.is("chosen(2, " + k + ", 0)", x.chosen(2, k, 0), 1);
            due.is("chosen(2, " + k + ", 1)", x.chosen(2, k, 1), k + 1);
        }
    }

    private static int alike(int[] grains, int from, int sum, int more, int[] heaps) {
        int found = 0;
        for (int i = from; i < grains.length && more > 0; i++) {
            int weight = sum + grains[i];
            found += heaps[weight];
            heaps[weight] = 1;
            found += alike(grains, i, weight, more - 1, heaps);
        }
        return found;
    }
}
