/** Promises 1 to 5, 11 to 16, 24 to 30: hands, coins, payments, trays, draws and images. */
public final class CoinTests {
    private static final Due due = new Due();

    public static void main(String[] args) {
        newObject();
        hands();
        coins();
        rulesAndHours();
        payments();
        washings();
        undoing();
        fortySteps();
        mustBeWashed();
        trays();
        sortedEdges();
        reading();
        markets();
        marketAtTheLastHour();
        images();
        about();
        others();
        due.end();
    }

    private static HeavierByHand three() {
        HeavierByHand x = new HeavierByHand();
        x.hand(5);
        x.hand(7);
        x.hand(12);
        return x;
    }

    private static void newObject() {
        HeavierByHand x = new HeavierByHand();
        int[] first = {0, 0, 0, 0, 3, 0, -1, 0, 0, 0, -2};
        for (int what = 0; what <= 10; what++) {
            due.is("new: about(" + what + ")", x.about(what), first[what]);
        }
        due.is("new: fault(0)", x.fault(0), -1);
        due.is("new: fault(1)", x.fault(1), -1);
        due.is("new: undo()", x.undo(), -1);
        x.hand(4);
        x.coin(10, 0);
        x.rules(2, 9);
        x.later(7);
        x.purse(0, 3);
        due.is("new: back()", x.back(), 0);
        for (int what = 0; what <= 10; what++) {
            due.is("new, back: about(" + what + ")", x.about(what), first[what]);
        }
        due.is("NONE", HeavierByHand.NONE, -1);
    }

    private static void hands() {
        HeavierByHand x = new HeavierByHand();
        due.is("hand(0)", x.hand(0), -1);
        due.is("hand(31)", x.hand(31), -1);
        due.is("hand(-5)", x.hand(-5), -1);
        for (int i = 0; i < 10; i++) {
            due.is("hand", x.hand(i == 0 ? 1 : i == 9 ? 30 : 10 + i), i);
        }
        due.is("the 11th hand", x.hand(5), -1);
        due.is("about(0)", x.about(0), 10);
        due.is("about(10)", x.about(10), 1);
        due.is("about(19)", x.about(19), 30);
        due.is("about(20)", x.about(20), 0);
        due.is("about(29)", x.about(29), 0);
        due.is("about(30)", x.about(30), -2);
    }

    private static void coins() {
        HeavierByHand x = new HeavierByHand();
        due.is("coin without hands", x.coin(10, 0), -1);
        x.hand(3);
        due.is("coin(-1, 0)", x.coin(-1, 0), -1);
        due.is("coin(501, 0)", x.coin(501, 0), -1);
        due.is("coin(5, 1)", x.coin(5, 1), -1);
        due.is("coin(5, -1)", x.coin(5, -1), -1);
        for (int i = 0; i < 20; i++) {
            due.is("coin", x.coin(i == 0 ? 0 : i == 1 ? 500 : i, 0), i);
        }
        due.is("the 21st coin", x.coin(5, 0), -1);
        due.is("about(1)", x.about(1), 20);
        due.is("of(1, 0)", x.of(1, 0), 500);
        due.is("of(1, 1)", x.of(1, 1), 0);
        due.is("of(1, 2)", x.of(1, 2), 0);
        due.is("of(1, 3)", x.of(1, 3), 500);
        due.is("of(1, 4)", x.of(1, 4), -1);
        due.is("of(1, 5)", x.of(1, 5), 0);
        due.is("of(1, 6)", x.of(1, 6), -1);
        due.is("of(1, -1)", x.of(1, -1), -1);
        due.is("of(20, 0)", x.of(20, 0), -1);
        due.is("of(-1, 0)", x.of(-1, 0), -1);
    }

    private static void rulesAndHours() {
        HeavierByHand x = new HeavierByHand();
        due.is("rules(6, 9)", x.rules(6, 9), true);
        due.is("rules(-1, 0)", x.rules(-1, 0), false);
        due.is("rules(0, -1)", x.rules(0, -1), false);
        due.is("rules(7, 0)", x.rules(7, 0), false);
        due.is("rules(0, 10)", x.rules(0, 10), false);
        due.is("about(3)", x.about(3), 6);
        due.is("about(4)", x.about(4), 9);
        due.is("later(0)", x.later(0), 0);
        for (int i = 1; i <= 10; i++) {
            due.is("later(99)", x.later(99), 99 * i);
        }
        due.is("later(10)", x.later(10), -1);
        due.is("later(9)", x.later(9), 999);
        due.is("later(1)", x.later(1), -1);
        due.is("later(0)", x.later(0), 999);
        due.is("later(100)", x.later(100), -1);
        due.is("later(-1)", x.later(-1), -1);
        due.is("later of the least", x.later(Integer.MIN_VALUE), -1);
        due.is("later of the greatest", x.later(Integer.MAX_VALUE), -1);
    }

    private static void payments() {
        HeavierByHand x = three();
        x.coin(100, 0);
        due.is("gives(0, 0)", x.gives(0, 0), -1);
        due.is("gives(2, 0)", x.gives(2, 0), 12);
        due.is("gives(3, 0)", x.gives(3, 0), -1);
        due.is("gives(-1, 0)", x.gives(-1, 0), -1);
        due.is("gives(1, 1)", x.gives(1, 1), -1);
        due.is("gives(1, -1)", x.gives(1, -1), -1);
        due.is("pay(0, 0)", x.pay(0, 0), -1);
        due.is("pay(0, 3)", x.pay(0, 3), -1);
        due.is("pay(1, 1)", x.pay(1, 1), -1);
        due.is("pay(-1, 1)", x.pay(-1, 1), -1);
        due.is("pay(0, -1)", x.pay(0, -1), -1);
        due.is("about(7)", x.about(7), 0);
        due.is("pay(0, 2)", x.pay(0, 2), 112);
        due.is("pay(0, 0)", x.pay(0, 0), 117);
        due.is("of(0, 2)", x.of(0, 2), 2);
        due.is("of(0, 3)", x.of(0, 3), 100);
        due.is("about(20)", x.about(20), 117);
        due.is("about(22)", x.about(22), 0);
    }

    private static void washings() {
        HeavierByHand x = three();
        x.coin(100, 0);
        due.is("wash(1)", x.wash(1), -1);
        due.is("wash(-1)", x.wash(-1), -1);
        due.is("wash(0)", x.wash(0), 0);
        due.is("about(7)", x.about(7), 1);
        x.pay(0, 1);
        x.pay(0, 2);
        due.is("wash(0)", x.wash(0), 19);
        due.is("of(0, 0)", x.of(0, 0), 100);
        due.is("of(0, 1)", x.of(0, 1), 2);
        due.is("of(0, 2)", x.of(0, 2), 2);
    }

    private static void undoing() {
        HeavierByHand x = three();
        x.coin(100, 0);
        x.coin(50, 1);
        x.pay(0, 1);
        x.pay(1, 2);
        x.wash(0);
        x.later(5);
        due.is("undo()", x.undo(), 0);
        due.is("of(0, 0)", x.of(0, 0), 107);
        due.is("of(0, 1)", x.of(0, 1), 1);
        due.is("undo()", x.undo(), 1);
        due.is("of(1, 0)", x.of(1, 0), 50);
        due.is("of(1, 1)", x.of(1, 1), 1);
        due.is("of(1, 2)", x.of(1, 2), 0);
        due.is("about(7)", x.about(7), 1);
        due.is("undo()", x.undo(), 0);
        due.is("of(0, 2)", x.of(0, 2), 0);
        due.is("undo()", x.undo(), -1);
        due.is("about(2)", x.about(2), 5);
    }

    private static void fortySteps() {
        HeavierByHand x = new HeavierByHand();
        x.hand(1);
        x.hand(1);
        x.coin(0, 0);
        for (int i = 1; i <= 45; i++) {
            due.is("pay", x.pay(0, i % 2), i);
            due.is("about(7)", x.about(7), Math.min(i, 40));
        }
        for (int i = 0; i < 10; i++) {
            due.is("undo()", x.undo(), 0);
        }
        due.is("of(0, 0)", x.of(0, 0), 35);
        due.is("about(7)", x.about(7), 30);
        due.is("pay", x.pay(0, 0), 36);
        due.is("about(7)", x.about(7), 31);
        for (int i = 0; i < 31; i++) {
            due.is("undo()", x.undo(), 0);
        }
        due.is("undo()", x.undo(), -1);
        due.is("of(0, 0)", x.of(0, 0), 5);
        due.is("of(0, 2)", x.of(0, 2), 5);
        due.is("of(0, 1)", x.of(0, 1), 1);
    }

    private static void mustBeWashed() {
        HeavierByHand x = three();
        x.rules(0, 0);
        x.coin(100, 0);
        x.pay(0, 1);
        x.wash(0);
        due.is("of(0, 5) of 1 hand and 0", x.of(0, 5), 1);
        x.rules(0, 5);
        due.is("of(0, 5) with an error of 5", x.of(0, 5), 0);
        x.rules(0, 4);
        due.is("of(0, 5) with an error of 4", x.of(0, 5), 1);
        x.rules(0, 0);
        for (int i = 0; i < 11; i++) {
            x.pay(0, i % 2 == 0 ? 2 : 1);
        }
        due.is("of(0, 2)", x.of(0, 2), 12);
        // Behind the washing 6 of 12 and 5 of 7 came, 107 in all; 12 HANDS can give 107 too: 5 + 6 * 7 + 5 * 12.
        due.is("of(0, 0)", x.of(0, 0), 207);
        due.is("of(0, 5)", x.of(0, 5), 0);
        x.wash(0);
        due.is("of(0, 5)", x.of(0, 5), 1);
        x.pay(0, 1);
        due.is("of(0, 5) of 13", x.of(0, 5), -1);
    }

    private static void trays() {
        HeavierByHand x = three();
        x.coin(100, 0);
        due.is("tray(0, -1)", x.tray(0, -1), true);
        due.is("tray(0, -2)", x.tray(0, -2), false);
        due.is("tray(0, 6)", x.tray(0, 6), false);
        due.is("tray(0, 5)", x.tray(0, 5), true);
        due.is("tray(1, 0)", x.tray(1, 0), false);
        due.is("tray(-1, 0)", x.tray(-1, 0), false);
        due.is("of(0, 4)", x.of(0, 4), 5);
        due.is("sorted(2, 0)", x.sorted(2, 0), 1);
        due.is("sorted(6, 0)", x.sorted(6, 0), 0);
        due.is("sorted(6, 5)", x.sorted(6, 5), 0);
        x.tray(0, 3);
        for (int i = 1; i <= 5; i++) {
            due.is("sorted(6, " + i + ")", x.sorted(6, i), i <= 3 ? 0 : 101);
        }
        due.is("sorted(6, 6)", x.sorted(6, 6), -1);
        due.is("sorted(6, -1)", x.sorted(6, -1), -1);
        due.is("sorted(1, 0)", x.sorted(1, 0), -1);
        due.is("sorted(7, 0)", x.sorted(7, 0), -1);
        due.is("sorted without coins", new HeavierByHand().sorted(4, 0), 0);
        due.is("sorted without coins", new HeavierByHand().sorted(4, 3), 0);
    }

    private static void sortedEdges() {
        HeavierByHand x = new HeavierByHand();
        x.hand(1);
        x.hand(30);
        Due.tell(x, "grain 1 + 98 * hand;");
        x.by(0);
        x.coin(500, 0);
        x.tray(0, 0);
        for (int i = 0; i < 5; i++) {
            x.pay(0, 1);
            x.pay(0, 0);
        }
        // 500 + 5 * 100 is 1000: above every CUT, so it lies in the last TRAY.
        due.is("of(0, 0)", x.of(0, 0), 1000);
        due.is("sorted(2, 0) of 1000", x.sorted(2, 0), 1);
        x.undo();
        due.is("of(0, 0)", x.of(0, 0), 999);
        due.is("sorted(2, 0) of 999", x.sorted(2, 0), 1);
        due.is("sorted(2, 1) of 999", x.sorted(2, 1), 0);
        HeavierByHand y = new HeavierByHand();
        y.hand(1);
        y.hand(29);
        Due.tell(y, "grain 99 - hand;");
        y.by(0);
        y.coin(500, 1);
        y.tray(0, 0);
        for (int i = 0; i < 2; i++) {
            y.pay(0, 0);
            y.pay(0, 1);
        }
        // 500 + 99 + 98 + 99 + 98 + 99 is 993; by another law 5 more.
        y.pay(0, 0);
        Due.tell(y, "grain 5;");
        y.by(1);
        y.pay(0, 1);
        due.is("of(0, 0)", y.of(0, 0), 998);
        due.is("sorted(2, 0) of 998", y.sorted(2, 0), 0);
        due.is("sorted(2, 1) of 998", y.sorted(2, 1), 999);
        HeavierByHand z = new HeavierByHand();
        z.hand(1);
        int[] mints = {10, 10, 10, 20, 20, 30};
        int[] in = {0, 0, 1, 1, 0, 2};
        for (int i = 0; i < mints.length; i++) {
            z.coin(mints[i], 0);
            z.tray(i, in[i]);
        }
        due.is("sorted(3, 0)", z.sorted(3, 0), 2);
        due.is("sorted(3, 1)", z.sorted(3, 1), 11);
        due.is("sorted(3, 2)", z.sorted(3, 2), 21);
        due.is("sorted(2, 0)", z.sorted(2, 0), 3);
        due.is("sorted(2, 1)", z.sorted(2, 1), 11);
    }

    private static void reading() {
        HeavierByHand x = three();
        x.coin(100, 0);
        due.is("read(0, 9999)", x.read(0, 9999), 100 - 3 + 69995 % 7);
        due.is("read(0, 10)", x.read(0, 10), 100 - 3 + 72 % 7);
        x.rules(0, 9);
        due.is("read(0, 10)", x.read(0, 10), 100 - 9 + 72 % 19);
        due.is("read(0, 9000)", x.read(0, 9000), 100 - 9 + 63002 % 19);
        due.is("read(0, 10000)", x.read(0, 10000), -100);
        due.is("read(0, -1)", x.read(0, -1), -100);
        due.is("read(1, 0)", x.read(1, 0), -100);
        due.is("read(-1, 0)", x.read(-1, 0), -100);
        x.coin(0, 0);
        due.is("read below 0", x.read(1, 0), 2 - 9);
        due.is("of(0, 0)", x.of(0, 0), 100);
        due.is("about(7)", x.about(7), 0);
    }

    private static void markets() {
        HeavierByHand x = new HeavierByHand();
        due.is("market without hands", x.market(0, 1), -1);
        x.hand(5);
        x.hand(7);
        x.hand(12);
        due.is("market without coins", x.market(0, 3), 0);
        due.is("about(2)", x.about(2), 3);
        x.coin(60, 2);
        x.coin(50, 2);
        x.coin(50, 2);
        // X: 2, 513, 26099 ..: HAND 2 pays to 0, by 2 % 3 and 513 % 3; of the two of 50 the first.
        due.is("market(0, 1)", x.market(0, 1), 1);
        due.is("of(1, 1)", x.of(1, 1), 0);
        due.is("of(1, 0)", x.of(1, 0), 55);
        due.is("of(2, 1)", x.of(2, 1), 2);
        due.is("about(7)", x.about(7), 1);
        due.is("market(0, 0)", x.market(0, 0), -1);
        due.is("market(0, 100)", x.market(0, 100), -1);
        due.is("market(-1, 1)", x.market(-1, 1), -1);
        due.is("market(10000, 1)", x.market(10000, 1), -1);
        due.is("about(2)", x.about(2), 4);
        due.is("undo()", x.undo(), 1);
        due.is("about(2)", x.about(2), 4);
        HeavierByHand one = new HeavierByHand();
        one.hand(4);
        one.coin(9, 0);
        due.is("market of one hand", one.market(3, 99), 0);
        due.is("about(2)", one.about(2), 99);
    }

    private static void marketAtTheLastHour() {
        HeavierByHand x = new HeavierByHand();
        x.hand(4);
        for (int i = 0; i < 10; i++) {
            x.later(99);
        }
        due.is("market(0, 8)", x.market(0, 8), 0);
        due.is("about(2)", x.about(2), 998);
        x.market(0, 99);
        due.is("about(2)", x.about(2), 999);
        x.market(0, 1);
        due.is("about(2)", x.about(2), 999);
    }

    private static void images() {
        HeavierByHand x = three();
        x.coin(100, 0);
        x.pay(0, 1);
        x.purse(0, 4);
        x.tray(0, 2);
        Due.tell(x, "grain 2;");
        x.by(0);
        x.rules(1, 2);
        x.later(9);
        due.is("image()", x.image(), 1);
        x.pay(0, 2);
        x.coin(10, 0);
        x.hand(9);
        x.purse(-1, 0);
        x.tray(0, -1);
        Due.tell(x, "grain 3;");
        x.by(1);
        x.rules(5, 5);
        x.later(9);
        Due.tell(x, "wait;");
        Due.feed(x, "wait 5;");
        for (int i = 0; i < 2; i++) {
            due.is("back()", x.back(), 1);
            int[] then = {3, 1, 9, 1, 2, 1, 0, 1, 1, 7};
            for (int what = 0; what < 10; what++) {
                due.is("back: about(" + what + ")", x.about(what), then[what]);
            }
            due.is("of(0, 0)", x.of(0, 0), 107);
            due.is("of(0, 4)", x.of(0, 4), 2);
            due.is("fault(0)", x.fault(0), 1);
            due.is("fault(1)", x.fault(1), 4);
            due.is("gives(2, 0)", x.gives(2, 0), 2);
            due.is("played(1)", x.played(1), -2);
            due.is("by(1)", x.by(1), false);
            due.is("undo()", x.undo(), 0);
            due.is("of(0, 0)", x.of(0, 0), 100);
        }
        due.is("text()", x.text(), 1);
        due.is("played(1)", x.played(1), -1);
        due.is("about(2)", x.about(2), 14);
    }

    private static void about() {
        HeavierByHand x = three();
        x.coin(100, 0);
        x.coin(30, 0);
        x.coin(7, 2);
        due.is("about(20)", x.about(20), 130);
        due.is("about(21)", x.about(21), 0);
        due.is("about(22)", x.about(22), 7);
        due.is("about(23)", x.about(23), -2);
        due.is("about(12)", x.about(12), 12);
        due.is("about(13)", x.about(13), -2);
        due.is("about(-1)", x.about(-1), -2);
        due.is("about(30)", x.about(30), -2);
        due.is("about of the greatest", x.about(Integer.MAX_VALUE), -2);
        due.is("about of the least", x.about(Integer.MIN_VALUE), -2);
    }

    /** Nothing that is refused changes anything. */
    private static void others() {
        HeavierByHand x = three();
        x.coin(100, 0);
        int[] far = {Integer.MIN_VALUE, -101, -3, 20, 300, 10000, Integer.MAX_VALUE};
        for (int a : far) {
            for (int b : far) {
                x.hand(a == 20 ? 31 : a);
                x.coin(a == 300 || a == 20 ? 501 : a, 0);
                x.coin(5, b);
                x.rules(a, b);
                x.later(a == 20 ? -1 : a);
                x.end(a);
                x.by(a);
                x.gives(a, b);
                x.pay(a, b);
                x.wash(a);
                x.played(a);
                x.of(a, b);
                x.rows(a, b, a, b);
                x.row(a, b, a, b, a);
                x.among(a, b, a, b, true);
                x.purse(a, b);
                x.odds(a, b, a, b);
                x.told(a, b);
                x.chosen(a, b, a);
                x.tray(a, b);
                x.sorted(a, b);
                x.read(a, b);
                x.market(a, b == 20 ? 100 : b);
                x.about(a);
                x.fault(a);
            }
        }
        int[] then = {3, 1, 0, 0, 3, 0, -1, 0, 0, 0, 5, 7, 12};
        for (int what = 0; what < then.length; what++) {
            due.is("behind others: about(" + what + ")", x.about(what), then[what]);
        }
        due.is("behind others: of(0, 0)", x.of(0, 0), 100);
        due.is("behind others: of(0, 4)", x.of(0, 4), -1);
    }
}
