/** The edges that part II of the terms names for laws, scripts and STEPS, and promises 11 to 16. */
public final class EdgesOfPayments {
    private static final int LEAST = Integer.MIN_VALUE;
    private static final int GREATEST = Integer.MAX_VALUE;
    private static final Due due = new Due();

    public static void main(String[] args) {
        handAndOwn();
        hour();
        market();
        aheadOfIt();
        from();
        fromTheLeft();
        cutTowardsZero();
        byZero();
        aboveAMillion();
        belowLessAMillion();
        aMillionAtEachStep();
        aWeightAboveAMillion();
        bothSides();
        gives();
        pay();
        wash();
        playedAll();
        playedUntil();
        playedAsByHand();
        playedOthers();
        fortySteps();
        fortyOneSteps();
        stepsTakenBackInBetween();
        stepsOfScriptsAndMarkets();
        takenBack();
        hourStays();
        ofOthers();
        mustAtFirst();
        mustByError();
        mustByTimes();
        mustByHands();
        due.end();
    }

    private static void gives(String law, int want) {
        due.is("gives(1, 0) by [" + law + "]", Worlds.ruled(law).gives(1, 0), want);
    }

    private static void handAndOwn() {
        due.sentence("NAMES: hand, own (its GRAIN),");
        HeavierByHand x = Worlds.hands(30, 1, 7, 7, 12, 3, 29, 20, 11, 5);
        x.coin(100, 4);
        Due.tell(x, "grain hand;");
        Due.tell(x, "grain own;");
        int[] grains = {30, 1, 7, 7, 12, 3, 29, 20, 11, 5};
        for (int hand = 0; hand < 10; hand++) {
            if (hand != 4) {
                x.by(0);
                due.is("hand of " + hand, x.gives(hand, 0), hand);
                x.by(1);
                due.is("own of " + hand, x.gives(hand, 0), grains[hand]);
            }
        }
    }

    private static void hour() {
        due.sentence("hour (HOUR mod 24),");
        HeavierByHand x = Worlds.ruled("grain hour;");
        for (int i = 0; i <= 50; i++) {
            due.is("hour at " + i, x.gives(1, 0), i % 24);
            x.later(1);
        }
        for (int i = 0; i < 9; i++) {
            x.later(99);
        }
        due.is("about(2)", x.about(2), 942);
        x.later(17);
        due.is("hour at 959", x.gives(1, 0), 23);
        x.later(1);
        due.is("hour at 960", x.gives(1, 0), 0);
        x.later(39);
        due.is("hour at 999", x.gives(1, 0), 15);
    }

    private static void market() {
        due.sentence("market (1, 0),");
        HeavierByHand x = Worlds.ruled("grain market;");
        due.is("market", x.gives(1, 0), 1);
        x.rules(1, 3);
        due.is("no market", x.gives(1, 0), 0);
    }

    private static void aheadOfIt() {
        due.sentence("weight, times (of the COIN, ahead of it),");
        HeavierByHand x = Worlds.hands(5, 7);
        x.coin(0, 0);
        Due.tell(x, "grain weight;");
        Due.tell(x, "grain times;");
        x.by(0);
        due.is("gives by a weight of 0", x.gives(1, 0), 0);
        due.is("pay by a weight of 0", x.pay(0, 1), 0);
        x.by(1);
        due.is("gives by 1 time", x.gives(0, 0), 1);
        due.is("pay by 1 time", x.pay(0, 0), 1);
        due.is("pay by 2 times", x.pay(0, 1), 3);
        x.by(0);
        due.is("pay by a weight of 3", x.pay(0, 0), 6);
        due.is("pay by a weight of 6", x.pay(0, 1), 12);
        x.wash(0);
        due.is("pay by a weight that is washed", x.pay(0, 0), 0);
        x.by(1);
        due.is("times behind washing", x.gives(1, 0), 6);
    }

    private static void from() {
        due.sentence("from (by whom it is HELD).");
        HeavierByHand x = Worlds.small();
        Due.tell(x, "grain 10 + from;");
        x.by(0);
        due.is("from 0", x.gives(1, 0), 10);
        due.is("pay from 0", x.pay(0, 2), 110);
        due.is("from 2", x.gives(1, 0), 12);
        due.is("pay from 2", x.pay(0, 1), 122);
        due.is("from 1", x.gives(0, 0), 11);
    }

    private static void fromTheLeft() {
        due.sentence("From the left;");
        gives("grain 10 - 3 - 2;", 5);
        gives("grain 10 - 3 + 2;", 9);
        gives("grain 100 / 5 / 2;", 10);
        gives("grain 100 / 5 * 2;", 40);
        gives("grain 7 * 3 / 2;", 10);
        gives("grain 2 + 3 * 4;", 14);
        gives("grain (2 + 3) * 4;", 20);
        gives("grain 20 - 2 * 3 - 4;", 10);
        gives("grain 20 + -2 * 3;", 14);
        gives("grain -2 + 20;", 18);
    }

    private static void cutTowardsZero() {
        due.sentence("/ cuts towards 0,");
        gives("grain 50 + 7 / 2;", 53);
        gives("grain 50 + -7 / 2;", 47);
        gives("grain 50 + 7 / -2;", 47);
        gives("grain 50 + -7 / -2;", 53);
        gives("grain 50 + 1 / 2;", 50);
        gives("grain 50 + -1 / 2;", 50);
        gives("grain 50 + 2 / 2;", 51);
        gives("grain 50 + -2 / 2;", 49);
        gives("grain 50 + 9999 / 9999;", 51);
        gives("grain 50 + 9998 / 9999;", 50);
    }

    private static void byZero() {
        due.sentence("by 0 it is 0;");
        gives("grain 50 + 7 / 0;", 50);
        gives("grain 50 + -7 / 0;", 50);
        gives("grain 50 + 0 / 0;", 50);
        gives("grain 50 + 7 / (1 - 1);", 50);
        gives("grain 50 + 7 / 0 * 3;", 50);
        gives("grain 50 + 7 / -0;", 50);
        gives("grain 50 + 7 / hand / from;", 50);
        gives("glove 1 / 0 = 0;", 0);
    }

    private static void aboveAMillion() {
        due.sentence("what is above 1000000");
        // Less 999950: 1000000 is 50 then, 999999 is 49, and 1000001 would be 51.
        String rest = " - 9999 * 100 - 50;";
        gives("grain 1000 * 1000" + rest, 50);
        gives("grain 1000 * 1000 - 1" + rest, 49);
        gives("grain 1000 * 1000 + 1" + rest, 50);
        gives("grain 1000 * 1000 - -1" + rest, 50);
        gives("grain 1001 * 1000" + rest, 50);
        gives("grain -1001 * -1000" + rest, 50);
        gives("grain 9999 * 9999" + rest, 50);
        gives("grain 9999 * 9999 * 9999 * 9999 * 9999" + rest, 50);
        gives("grain 1000 * 1000 * (1000 * 1000)" + rest, 50);
        gives("grain 1000 * 1000 + 1000 * 1000" + rest, 50);
        gives("grain -(-1000 * 1001)" + rest, 50);
    }

    private static void belowLessAMillion() {
        due.sentence("(below the same less) is that,");
        String rest = " + 9999 * 100 + 150;";
        gives("grain -1000 * 1000" + rest, 50);
        gives("grain -1000 * 1000 + 1" + rest, 51);
        gives("grain -1000 * 1000 - 1" + rest, 50);
        gives("grain -1000 * 1000 + -1" + rest, 50);
        gives("grain -1001 * 1000" + rest, 50);
        gives("grain 1000 * -1001" + rest, 50);
        gives("grain -9999 * 9999 * 9999 * 9999 * 9999" + rest, 50);
        gives("grain -1000 * 1000 * (1000 * 1000)" + rest, 50);
        gives("grain -1000 * 1000 - 1000 * 1000" + rest, 50);
        gives("grain -(1000 * 1001)" + rest, 50);
    }

    private static void aMillionAtEachStep() {
        due.sentence("at each step.");
        // 1000001 is 1000000 ahead of the next step.
        gives("grain 1000 * 1000 + 1 - 1 - 9999 * 100 - 50;", 49);
        gives("grain -1000 * 1000 - 1 + 1 + 9999 * 100 + 150;", 51);
        gives("grain 2000 * 1000 / 1000 / 20;", 50);
        gives("grain (2000 * 1000) / 1000 / 20;", 50);
        gives("grain -(2000 * 1000) / 1000 / -20;", 50);
        gives("grain 1000 * 1000 * 1000 / 1000 / 1000 + 20;", 21);
        gives("glove 1000 * 1000 = 1000 * 1000 + 1;", 0);
        gives("glove 1000 * 1000 = 1000 * 1000 - 1;", 7);
        gives("glove -1000 * 1000 = -1000 * 1000 - 1;", 0);
        gives("glove -1000 * 1000 = -1000 * 1000 + 1;", 7);
        gives("glove 1000 * 1000 < 9999 * 9999;", 7);
    }

    /** The SEED of a market of 99 turns in which two HANDS pay the most, and HAND 0 has the COIN again behind it. */
    private static int liveliest() {
        int best = 0;
        int most = 0;
        for (int seed = 0; seed <= 9999; seed++) {
            HeavierByHand x = Worlds.hands(1, 1);
            x.coin(0, 0);
            int paid = x.market(seed, 99);
            if (paid > most && x.of(0, 1) == 0) {
                most = paid;
                best = seed;
            }
        }
        return best;
    }

    /** By markets of 99 turns: a COIN that is heavier than all that a law reckons with. */
    private static void aWeightAboveAMillion() {
        due.sentence("what is above 1000000");
        int seed = liveliest();
        HeavierByHand x = Worlds.hands(1, 1);
        x.coin(0, 0);
        Due.tell(x, "grain 99;");
        Due.tell(x, "grain weight / 5000 - 150;");
        x.by(0);
        int paid = 0;
        for (int calls = 0; calls < 480 && paid * 99 <= 1020000; calls++) {
            paid += x.market(seed, 99);
        }
        due.is("the weight is above 1020000", x.of(0, 0) > 1020000, true);
        due.is("of(0, 0)", x.of(0, 0), paid * 99);
        x.by(1);
        due.is("gives", x.gives(1, 0), 50);
    }

    private static void bothSides() {
        due.sentence("or and and look at both sides always.");
        boolean[] sides = {false, true};
        for (boolean left : sides) {
            for (boolean right : sides) {
                String l = left ? "1 = 1" : "1 = 2";
                String r = right ? "2 < 3" : "3 < 2";
                gives("glove " + l + " or " + r + ";", left || right ? 0 : 7);
                gives("glove " + l + " and " + r + ";", left && right ? 0 : 7);
                gives("glove not " + l + " and " + r + ";", !left && right ? 0 : 7);
                gives("glove not " + l + " or " + r + ";", !left || right ? 0 : 7);
            }
        }
        gives("glove 1 = 1 or 1 = 1 and 1 = 2;", 0);
        gives("glove 1 = 2 and 1 = 1 or 1 = 1;", 0);
        gives("glove 1 = 2 and 1 = 2 or 1 = 1 and 1 = 1;", 0);
        gives("glove 1 = 1 or 1 / 0 = 1;", 0);
        due.faulty("glove 1 = 1 or 1 = 10000;", 2, 19);
        due.faulty("glove 1 = 2 and 1 = 10000;", 2, 20);
    }

    private static void gives() {
        due.sentence("What a HAND GIVES to a COIN now. NONE for others, and by whom it is HELD.");
        HeavierByHand x = Worlds.small();
        due.is("gives(2, 0)", x.gives(2, 0), 12);
        due.is("gives(0, 0), its holder", x.gives(0, 0), -1);
        for (int hand : new int[] {-1, 3, LEAST, GREATEST}) {
            due.is("gives(" + hand + ", 0)", x.gives(hand, 0), -1);
        }
        for (int coin : new int[] {-1, 1, LEAST, GREATEST}) {
            due.is("gives(1, " + coin + ")", x.gives(1, coin), -1);
        }
        x.pay(0, 2);
        due.is("gives(2, 0), its holder now", x.gives(2, 0), -1);
        due.is("gives(0, 0), its holder no longer", x.gives(0, 0), 5);
        HeavierByHand full = Worlds.crowded();
        due.is("gives(9, 0) of 10", full.gives(9, 0), 5 + 3);
        due.is("gives(10, 0) of 10", full.gives(10, 0), -1);
        due.is("gives(0, 20) of 20", full.gives(0, 20), -1);
    }

    private static void pay() {
        due.sentence("A COIN is paid to a HAND: its WEIGHT. NONE for others, and by whom it is HELD.");
        HeavierByHand x = Worlds.hands(1, 2, 3, 4, 5, 6, 7, 8, 9, 10);
        for (int i = 0; i < 20; i++) {
            x.coin(100 + i, 0);
        }
        due.is("pay(19, 9)", x.pay(19, 9), 129);
        due.is("pay(0, 9)", x.pay(0, 9), 110);
        due.is("pay(20, 9)", x.pay(20, 9), -1);
        due.is("pay(19, 10)", x.pay(19, 10), -1);
        due.is("pay(-1, 9)", x.pay(-1, 9), -1);
        due.is("pay(1, -1)", x.pay(1, -1), -1);
        due.is("pay(19, 9), its holder", x.pay(19, 9), -1);
        due.is("pay(1, 0), its holder", x.pay(1, 0), -1);
        for (int far : new int[] {LEAST, GREATEST}) {
            due.is("pay(" + far + ", 1)", x.pay(far, 1), -1);
            due.is("pay(1, " + far + ")", x.pay(1, far), -1);
        }
        due.is("about(7)", x.about(7), 2);
        due.is("about(29)", x.about(29), 239);
    }

    private static void wash() {
        due.sentence("A COIN is WASHED: how much it lost. NONE for others.");
        HeavierByHand x = Worlds.small();
        due.is("wash(0), not heavier", x.wash(0), 0);
        due.is("about(7)", x.about(7), 1);
        x.pay(0, 2);
        due.is("wash(0)", x.wash(0), 12);
        for (int coin : new int[] {-1, 1, 19, 20, LEAST, GREATEST}) {
            due.is("wash(" + coin + ")", x.wash(coin), -1);
        }
        due.is("about(7)", x.about(7), 3);
        for (int i = 1; i < 20; i++) {
            x.coin(1, 0);
        }
        x.pay(19, 1);
        due.is("wash(19)", x.wash(19), 7);
        due.is("wash(20)", x.wash(20), -1);
    }

    private static void playedAll() {
        due.sentence("PLAYED by a TEXT: NONE: all is done; else the number of the CLAUSE that can't be"
            + " (what was done stays). -2 for others.");
        HeavierByHand x = Worlds.small();
        due.is("text()", x.text(), 0);
        due.is("played of no CLAUSES", x.played(0), -1);
        Due.tell(x, "glove 1<2;grain 1;");
        due.is("played of laws alone", x.played(1), -1);
        due.is("about(7)", x.about(7), 0);
        due.is("about(6), no law rules by it", x.about(6), -1);
        Due.tell(x, "pay 0 to 1;wash 0;wait 99;pay 0 to 2;wait 0;");
        due.is("played of all", x.played(2), -1);
        due.is("of(0, 0)", x.of(0, 0), 112);
        due.is("about(2)", x.about(2), 99);
        due.is("about(7)", x.about(7), 3);
    }

    private static void playedUntil() {
        due.sentence("its number among all CLAUSES (from 0).");
        HeavierByHand x = Worlds.small();
        Due.tell(x, "wash 1;");
        due.is("played, the first can't be", x.played(0), 0);
        Due.tell(x, "wait 1;".repeat(19) + "wash 1;");
        due.is("played, the 20th can't be", x.played(1), 19);
        due.is("about(2), what was done stays", x.about(2), 19);
        Due.tell(x, "glove 1<2;grain 1;wash 1;wait 1;");
        due.is("played, laws count", x.played(2), 2);
        due.is("about(2), none behind it", x.about(2), 19);
        Due.tell(x, "pay 0 to 1;wash 0;pay 0 to 1;pay 0 to 2;");
        due.is("played, to its holder", x.played(3), 2);
        due.is("of(0, 1)", x.of(0, 1), 1);
        due.is("of(0, 2)", x.of(0, 2), 1);
        due.is("about(7)", x.about(7), 2);
        due.is("played again", x.played(3), 0);
    }

    private static void playedAsByHand() {
        due.sentence("PLAYED by a TEXT: its pay, wash and wait clauses, in their order, as by hand; one that can't be"
            + " ends it:");
        String[] cant = {"pay 1 to 1;", "pay 19 to 1;", "pay 0 to 3;", "pay 0 to 9;", "pay 0 to 0;", "wash 1;", "wash 19;"};
        for (String clause : cant) {
            HeavierByHand x = Worlds.small();
            Due.tell(x, "wait 1;" + clause + "wait 1;");
            due.is("played of " + clause, x.played(0), 1);
            due.is("about(2)", x.about(2), 1);
            due.is("about(7)", x.about(7), 0);
        }
        HeavierByHand x = Worlds.small();
        for (int i = 0; i < 9; i++) {
            x.later(99);
        }
        Due.tell(x, "wait 99;wait 9;wait 0;");
        Due.tell(x, "wait 0;wait 1;wait 0;");
        due.is("played to 999", x.played(0), -1);
        due.is("about(2)", x.about(2), 999);
        due.is("played beyond 999", x.played(1), 1);
        due.is("about(2)", x.about(2), 999);
        // THE TEXT rules, not the one by which it is PLAYED, and by the HOUR that has come then.
        HeavierByHand y = Worlds.small();
        Due.tell(y, "grain 10 + hour;");
        Due.tell(y, "grain 1;pay 0 to 1;wait 5;pay 0 to 2;");
        y.by(0);
        due.is("played", y.played(1), -1);
        due.is("of(0, 0)", y.of(0, 0), 125);
    }

    private static void playedOthers() {
        due.sentence("-2 for others.");
        HeavierByHand x = Worlds.small();
        due.is("played(0) of none", x.played(0), -2);
        for (int i = 0; i < 4; i++) {
            Due.tell(x, "wait 1;");
            due.is("played(" + i + ")", x.played(i), -1);
            due.is("played(" + (i + 1) + ")", x.played(i + 1), -2);
        }
        for (int text : new int[] {-1, -2, 4, LEAST, GREATEST}) {
            due.is("played(" + text + ")", x.played(text), -2);
        }
        due.is("about(2)", x.about(2), 4);
    }

    /** So many payments of a COIN of 0 between two HANDS of 1: its WEIGHT tells how many. */
    private static HeavierByHand paidTimes(int many) {
        HeavierByHand x = Worlds.hands(1, 1);
        x.coin(0, 0);
        for (int i = 1; i <= many; i++) {
            x.pay(0, i % 2);
        }
        return x;
    }

    private static void fortySteps() {
        due.sentence("the latest 40 of them:");
        for (int many : new int[] {0, 1, 39, 40}) {
            HeavierByHand x = paidTimes(many);
            due.is("about(7) of " + many, x.about(7), many);
            for (int i = 1; i <= many; i++) {
                due.is("undo()", x.undo(), 0);
                due.is("of(0, 0)", x.of(0, 0), many - i);
                due.is("of(0, 1)", x.of(0, 1), (many - i) % 2);
                due.is("of(0, 2)", x.of(0, 2), many - i);
                due.is("about(7)", x.about(7), many - i);
            }
            due.is("undo() of none", x.undo(), -1);
            due.is("about(7)", x.about(7), 0);
        }
    }

    private static void fortyOneSteps() {
        due.sentence("the latest 40 of them:");
        for (int many : new int[] {41, 42, 79, 80, 81, 121}) {
            HeavierByHand x = paidTimes(many);
            due.is("about(7) of " + many, x.about(7), 40);
            for (int i = 1; i <= 40; i++) {
                due.is("undo()", x.undo(), 0);
                due.is("of(0, 0)", x.of(0, 0), many - i);
            }
            due.is("undo() of the 41st", x.undo(), -1);
            due.is("of(0, 0)", x.of(0, 0), many - 40);
            due.is("of(0, 2)", x.of(0, 2), many - 40);
            due.is("about(7)", x.about(7), 0);
        }
    }

    private static void stepsTakenBackInBetween() {
        due.sentence("the latest not taken back can be TAKEN BACK:");
        HeavierByHand x = paidTimes(40);
        due.is("undo()", x.undo(), 0);
        due.is("pay", x.pay(0, 0), 40);
        due.is("about(7)", x.about(7), 40);
        due.is("undo()", x.undo(), 0);
        due.is("undo()", x.undo(), 0);
        due.is("of(0, 0)", x.of(0, 0), 38);
        due.is("about(7)", x.about(7), 38);
        due.is("wash(0)", x.wash(0), 38);
        due.is("about(7)", x.about(7), 39);
        due.is("undo()", x.undo(), 0);
        due.is("of(0, 0)", x.of(0, 0), 38);
        for (int i = 37; i >= 0; i--) {
            due.is("undo()", x.undo(), 0);
            due.is("of(0, 0)", x.of(0, 0), i);
        }
        due.is("undo()", x.undo(), -1);
        // A STEP behind all taken back is the only one.
        due.is("pay", x.pay(0, 1), 1);
        due.is("about(7)", x.about(7), 1);
        due.is("undo()", x.undo(), 0);
        due.is("undo()", x.undo(), -1);
    }

    private static void stepsOfScriptsAndMarkets() {
        due.sentence("STEPS: payments and washings (by hand, by PLAYED, in a market),");
        HeavierByHand x = Worlds.small();
        Due.tell(x, "wait 1;pay 0 to 1;wash 0;wait 1;pay 0 to 0;");
        x.played(0);
        due.is("about(7) behind a script", x.about(7), 3);
        x.later(3);
        x.rules(1, 1);
        x.tray(0, 1);
        due.is("about(7), all else is no STEP", x.about(7), 3);
        int paid = x.market(0, 99);
        due.is("market(0, 99) pays", paid > 0, true);
        due.is("about(7) behind a market", x.about(7), Math.min(40, 3 + paid));
        due.is("market(1, 99) pays", x.market(1, 99) > 0, true);
        due.is("market(2, 99) pays", x.market(2, 99) > 0, true);
        due.is("about(7) behind markets", x.about(7), 40);
        for (int i = 0; i < 40; i++) {
            due.is("undo()", x.undo(), 0);
        }
        due.is("undo()", x.undo(), -1);
    }

    private static void takenBack() {
        due.sentence("its COIN is as it was ahead of it (WEIGHT, HELD, TIMES).");
        HeavierByHand x = Worlds.small();
        x.coin(50, 1);
        x.pay(0, 2);
        x.pay(1, 0);
        x.wash(0);
        x.tray(0, 4);
        due.is("undo()", x.undo(), 0);
        due.is("of(0, 0)", x.of(0, 0), 112);
        due.is("of(0, 1)", x.of(0, 1), 2);
        due.is("of(0, 2)", x.of(0, 2), 1);
        due.is("of(0, 4), the TRAY stays", x.of(0, 4), 4);
        due.is("undo()", x.undo(), 1);
        due.is("of(1, 0)", x.of(1, 0), 50);
        due.is("of(1, 1)", x.of(1, 1), 1);
        due.is("of(1, 2)", x.of(1, 2), 0);
        due.is("of(0, 0)", x.of(0, 0), 112);
        due.is("undo()", x.undo(), 0);
        due.is("of(0, 0)", x.of(0, 0), 100);
        due.is("of(0, 1)", x.of(0, 1), 0);
        due.is("of(0, 2)", x.of(0, 2), 0);
        due.sentence("TAKEN BACK: the COIN. NONE: there is no STEP.");
        due.is("undo()", x.undo(), -1);
        due.is("of(0, 0)", x.of(0, 0), 100);
        due.is("undo()", x.undo(), -1);
    }

    private static void hourStays() {
        due.sentence("(HOUR stays.)");
        HeavierByHand x = Worlds.small();
        Due.tell(x, "pay 0 to 1;wait 9;wash 0;wait 8;");
        x.played(0);
        x.undo();
        x.undo();
        due.is("about(2)", x.about(2), 17);
        x.market(0, 5);
        while (x.undo() >= 0) {
            due.is("about(2)", x.about(2), 22);
        }
        due.is("about(2)", x.about(2), 22);
    }

    private static void ofOthers() {
        due.sentence("Of a COIN: 0 WEIGHT, 1 by whom it is HELD, 2 TIMES, 3 MINT, 4 its TRAY (NONE), 5 MUST it be"
            + " WASHED (1, 0). NONE for others (5: TIMES above 12).");
        HeavierByHand x = Worlds.small();
        x.pay(0, 2);
        int[] now = {112, 2, 1, 100, -1, 0};
        for (int what = 0; what <= 5; what++) {
            due.is("of(0, " + what + ")", x.of(0, what), now[what]);
            for (int coin : new int[] {-1, 1, 20, LEAST, GREATEST}) {
                due.is("of(" + coin + ", " + what + ")", x.of(coin, what), -1);
            }
        }
        for (int what : new int[] {-1, 6, LEAST, GREATEST}) {
            due.is("of(0, " + what + ")", x.of(0, what), -1);
        }
        HeavierByHand full = Worlds.hands(5, 7);
        for (int i = 0; i < 20; i++) {
            full.coin(i, 0);
        }
        due.is("of(19, 3)", full.of(19, 3), 19);
        due.is("of(20, 3)", full.of(20, 3), -1);
    }

    private static void mustAtFirst() {
        due.sentence("MUST a COIN be WASHED: if there are no ROWS of just TIMES HANDS");
        HeavierByHand x = Worlds.small();
        x.rules(0, 0);
        due.is("of(0, 5), never paid", x.of(0, 5), 0);
        x.wash(0);
        due.is("of(0, 5), never paid and washed", x.of(0, 5), 0);
        x.pay(0, 1);
        due.is("of(0, 5), paid", x.of(0, 5), 0);
        x.wash(0);
        due.is("of(0, 5), paid and washed", x.of(0, 5), 1);
        // 12 is of HAND 2 alone and of two others: behind 7 and 5 two HANDS are asked for.
        x.pay(0, 0);
        due.is("of(0, 5) of two for 5", x.of(0, 5), 1);
        x.pay(0, 2);
        x.pay(0, 1);
        due.is("of(0, 0)", x.of(0, 0), 124);
        due.is("of(0, 2)", x.of(0, 2), 4);
        // Four HANDS for 24: 5, 7, 5, 7.
        due.is("of(0, 5) of four for 24", x.of(0, 5), 0);
    }

    private static void mustByError() {
        due.sentence("for WEIGHT less MINT");
        // One HAND of 20, and laws by which it gives less or more: parted from 20 by ERROR and by one more.
        for (int error = 0; error <= 9; error++) {
            int[] grains = {20 - error - 1, 20 - error, 20, 20 + error, 20 + error + 1};
            int[] must = {1, 0, 0, 0, 1};
            for (int i = 0; i < grains.length; i++) {
                HeavierByHand x = Worlds.hands(20, 20);
                x.coin(300, 0);
                x.rules(0, error);
                Due.tell(x, "grain " + grains[i] + ";");
                x.by(0);
                x.pay(0, 1);
                due.is("of(0, 5) for " + grains[i] + " by " + error, x.of(0, 5), must[i]);
            }
        }
    }

    private static void mustByTimes() {
        due.sentence("(12 at most; more: it is not told)");
        HeavierByHand x = Worlds.hands(5, 7);
        x.rules(0, 0);
        x.coin(0, 0);
        for (int times = 1; times <= 12; times++) {
            x.pay(0, times % 2);
            due.is("of(0, 5) of " + times, x.of(0, 5), 0);
        }
        x.wash(0);
        due.is("of(0, 5) of 12, washed", x.of(0, 5), 1);
        x.undo();
        due.is("of(0, 5) of 12", x.of(0, 5), 0);
        x.pay(0, 1);
        due.is("of(0, 2)", x.of(0, 2), 13);
        due.is("of(0, 5) of 13", x.of(0, 5), -1);
        x.wash(0);
        due.is("of(0, 5) of 13, washed", x.of(0, 5), -1);
        x.undo();
        x.undo();
        due.is("of(0, 5) of 12 again", x.of(0, 5), 0);
        // 12 of 99 are 1188, beyond each gain that can be asked for, and beyond 12 of 30.
        HeavierByHand y = Worlds.hands(30, 30);
        y.coin(0, 0);
        Due.tell(y, "grain 99;");
        y.by(0);
        for (int i = 1; i <= 12; i++) {
            y.pay(0, i % 2);
        }
        due.is("of(0, 0)", y.of(0, 0), 1188);
        due.is("of(0, 5) for 1188", y.of(0, 5), 1);
    }

    private static void mustByHands() {
        due.sentence("from any beginning (each HAND told).");
        // The first of a ROW is any HAND, by one who begins and is another: the holder now, the first holder, too.
        HeavierByHand x = Worlds.hands(5, 20);
        x.rules(0, 0);
        x.coin(0, 0);
        Due.tell(x, "grain 5;");
        x.by(0);
        x.pay(0, 1);
        due.is("of(0, 5) for 5 from HAND 1", x.of(0, 5), 0);
        HeavierByHand y = Worlds.hands(20, 5);
        y.rules(0, 0);
        y.coin(0, 1);
        Due.tell(y, "grain 5;");
        y.by(0);
        y.pay(0, 0);
        due.is("of(0, 5) for 5 from HAND 0", y.of(0, 5), 0);
        // A HAND told later counts as well.
        HeavierByHand z = Worlds.hands(20, 20);
        z.rules(0, 0);
        z.coin(0, 1);
        Due.tell(z, "grain 5;");
        z.by(0);
        z.pay(0, 0);
        due.is("of(0, 5) without a HAND of 5", z.of(0, 5), 1);
        z.hand(5);
        due.is("of(0, 5) with a HAND of 5", z.of(0, 5), 0);
    }
}
