/** The edges that the terms name for THE IMAGE, and promises 28 to 30. */
public final class EdgesOfImages {
    private static final int LEAST = Integer.MIN_VALUE;
    private static final int GREATEST = Integer.MAX_VALUE;
    private static final Due due = new Due();

    public static void main(String[] args) {
        imageOfNone();
        imageOfTheFull();
        allAsItIs();
        stepsAsWell();
        stepsOverwritten();
        stepsOfTheFull();
        purseAsItWas();
        tapeStays();
        faultStays();
        textsAreGone();
        textsStayUntilThen();
        theTextThatIsGone();
        itStays();
        laterImage();
        aboutEmpty();
        aboutFull();
        aboutOthers();
        due.end();
    }

    private static void imageOfNone() {
        due.sentence("THE IMAGE is as all is now: how many COINS there are.");
        HeavierByHand x = new HeavierByHand();
        due.is("image() without COINS", x.image(), 0);
        x.hand(5);
        due.is("image() without COINS", x.image(), 0);
        x.coin(1, 0);
        due.is("image()", x.image(), 1);
        for (int i = 1; i < 20; i++) {
            x.coin(1, 0);
        }
        due.is("image() of 20", x.image(), 20);
        due.is("about(1)", x.about(1), 20);
        x.coin(1, 0);
        due.is("image() of 20", x.image(), 20);
    }

    private static void imageOfTheFull() {
        due.sentence("All is as at THE IMAGE again (it stays): how many COINS there are.");
        HeavierByHand x = Worlds.hands(5, 7);
        due.is("back() to the new", x.back(), 0);
        due.is("about(0)", x.about(0), 0);
        HeavierByHand full = Worlds.crowded();
        due.is("back() of 20", full.back(), 20);
        int[] then = {10, 20, 999, 6, 9, 4, 3, 40, 4, 300};
        for (int what = 0; what < then.length; what++) {
            due.is("about(" + what + ")", full.about(what), then[what]);
        }
        due.is("the 11th HAND", full.hand(1), -1);
        due.is("the 21st COIN", full.coin(1, 0), -1);
        due.is("the 5th TEXT", full.text(), -1);
        due.is("the 5th gain", full.purse(0, 1), -1);
        due.is("later(1)", full.later(1), -1);
    }

    private static void isAsThen(HeavierByHand x) {
        int[] then = {3, 2, 9, 1, 2, 1, 0, 2, 1};
        for (int what = 0; what < then.length; what++) {
            due.is("back: about(" + what + ")", x.about(what), then[what]);
        }
        int[] first = {107, 1, 1, 100, 2};
        int[] second = {50, 2, 0, 50, -1};
        for (int what = 0; what < first.length; what++) {
            due.is("back: of(0, " + what + ")", x.of(0, what), first[what]);
            due.is("back: of(1, " + what + ")", x.of(1, what), second[what]);
        }
        int[] grains = {5, 7, 12};
        for (int hand = 0; hand < 3; hand++) {
            due.is("back: about(" + (10 + hand) + ")", x.about(10 + hand), grains[hand]);
        }
        due.is("back: about(13)", x.about(13), -2);
        due.is("back: of(2, 0)", x.of(2, 0), -1);
        due.is("back: gives(2, 0)", x.gives(2, 0), 2);
        due.is("back: odds(2, 1, 1, 1)", x.odds(2, 1, 1, 1), 1);
        due.is("back: odds(1, 1, 1, 1)", x.odds(1, 1, 1, 0), 0);
    }

    private static HeavierByHand imaged() {
        HeavierByHand x = Worlds.small();
        x.coin(50, 2);
        x.pay(0, 1);
        x.wash(1);
        x.purse(0, 12);
        x.tray(0, 2);
        Due.tell(x, "grain 2;");
        x.by(0);
        x.rules(1, 2);
        x.later(9);
        due.is("image()", x.image(), 2);
        return x;
    }

    private static void changeAll(HeavierByHand x) {
        x.hand(9);
        x.coin(10, 3);
        x.pay(0, 2);
        x.pay(1, 3);
        x.wash(0);
        x.tray(0, -1);
        x.tray(1, 5);
        x.purse(-1, 0);
        x.purse(1, 5);
        x.purse(1, 6);
        Due.tell(x, "grain 3;");
        x.by(1);
        x.rules(5, 5);
        x.later(9);
        x.market(3, 9);
    }

    private static void allAsItIs() {
        due.sentence("AN IMAGE: all as it is,");
        HeavierByHand x = imaged();
        isAsThen(x);
        changeAll(x);
        due.is("back()", x.back(), 2);
        isAsThen(x);
        // What is undone has no way forth again.
        x.undo();
        x.undo();
        due.is("undo()", x.undo(), -1);
        due.is("back()", x.back(), 2);
        isAsThen(x);
    }

    private static void stepsAsWell() {
        due.sentence("STEPS as well,");
        HeavierByHand x = imaged();
        changeAll(x);
        x.back();
        due.is("about(7)", x.about(7), 2);
        due.is("undo()", x.undo(), 1);
        due.is("undo()", x.undo(), 0);
        due.is("of(0, 0)", x.of(0, 0), 100);
        due.is("of(0, 1)", x.of(0, 1), 0);
        due.is("undo()", x.undo(), -1);
        // Taken back behind THE IMAGE, there again behind going back.
        x.back();
        due.is("about(7)", x.about(7), 2);
        due.is("undo()", x.undo(), 1);
        HeavierByHand none = Worlds.small();
        none.image();
        none.pay(0, 1);
        none.back();
        due.is("about(7)", none.about(7), 0);
        due.is("undo()", none.undo(), -1);
        due.is("of(0, 0)", none.of(0, 0), 100);
    }

    /** Taken back behind THE IMAGE, and others of another COIN, HAND and TIMES in their places. */
    private static void stepsOverwritten() {
        due.sentence("STEPS as well,");
        HeavierByHand x = Worlds.small();
        x.coin(50, 2);
        x.pay(0, 1);
        x.pay(0, 2);
        x.wash(0);
        x.image();
        x.undo();
        x.undo();
        x.undo();
        x.wash(1);
        x.pay(1, 1);
        x.wash(1);
        x.back();
        int[] weights = {119, 107, 100};
        int[] holders = {2, 1, 0};
        int[] times = {2, 1, 0};
        for (int i = 0; i < 3; i++) {
            due.is("undo()", x.undo(), 0);
            due.is("of(0, 0)", x.of(0, 0), weights[i]);
            due.is("of(0, 1)", x.of(0, 1), holders[i]);
            due.is("of(0, 2)", x.of(0, 2), times[i]);
        }
        due.is("undo()", x.undo(), -1);
        due.is("of(1, 0)", x.of(1, 0), 50);
    }

    private static void purseAsItWas() {
        due.sentence("AN IMAGE: all as it is,");
        HeavierByHand x = Worlds.hands(5, 7, 12);
        x.rules(0, 0);
        x.purse(0, 7);
        x.purse(2, 7);
        x.image();
        x.purse(-1, 0);
        // Neither the gains nor who begins are those of THE IMAGE.
        x.purse(1, 12);
        x.purse(1, 5);
        due.is("told(1, 1)", x.told(1, 1), -1);
        x.back();
        due.is("about(8)", x.about(8), 2);
        due.is("told(1, 1)", x.told(1, 1), 1);
        due.is("odds(1, 1, 1, 0)", x.odds(1, 1, 1, 0), 1);
        due.is("odds(1, 1, 1, 1)", x.odds(1, 1, 1, 1), 1);
        due.is("purse(0, 5)", x.purse(0, 5), 3);
        due.is("odds(1, 1, 1, 1), from HAND 0 there is no 5", x.odds(1, 1, 1, 1), -1);
    }

    private static void stepsOfTheFull() {
        due.sentence("STEPS as well,");
        HeavierByHand x = Worlds.hands(1, 1);
        x.coin(0, 0);
        for (int i = 1; i <= 55; i++) {
            x.pay(0, i % 2);
        }
        x.image();
        for (int i = 56; i <= 80; i++) {
            x.pay(0, i % 2);
        }
        due.is("back()", x.back(), 1);
        due.is("about(7)", x.about(7), 40);
        for (int i = 54; i >= 15; i--) {
            due.is("undo()", x.undo(), 0);
            due.is("of(0, 0)", x.of(0, 0), i);
        }
        due.is("undo()", x.undo(), -1);
        x.back();
        due.is("pay", x.pay(0, 0), 56);
        due.is("about(7)", x.about(7), 40);
    }

    private static void tapeStays() {
        due.sentence("but the tape and the latest FAULT;");
        HeavierByHand x = Worlds.small();
        Due.feed(x, "wait 1;");
        x.image();
        Due.feed(x, "wait 25; ");
        due.is("back()", x.back(), 1);
        due.is("about(9), the tape is as it was ahead", x.about(9), 9);
        due.is("text()", x.text(), 0);
        due.is("played(0)", x.played(0), -1);
        due.is("about(2)", x.about(2), 25);
        x.back();
        due.is("about(9), it is empty", x.about(9), 0);
        Due.feed(x, " ".repeat(300));
        x.back();
        due.is("about(9), it is full", x.about(9), 300);
        x.end(0);
        x.image();
        Due.feed(x, "wait");
        x.image();
        due.is("about(9), an image leaves it", x.about(9), 4);
    }

    private static void faultStays() {
        due.sentence("but the tape and the latest FAULT;");
        HeavierByHand x = Worlds.small();
        due.is("back()", x.back(), 0);
        due.is("fault(0) ahead of any", x.fault(0), -1);
        x.image();
        Due.tell(x, "wait 100;");
        x.back();
        due.is("fault(0), of the latest that was read", x.fault(0), 2);
        due.is("fault(1)", x.fault(1), 5);
        x.image();
        Due.tell(x, "wait 1;");
        x.back();
        due.is("fault(0), of a text that is gone", x.fault(0), 0);
        due.is("fault(1)", x.fault(1), -1);
        due.is("about(5)", x.about(5), 0);
    }

    private static void textsAreGone() {
        due.sentence("TEXTS told behind it are gone behind going back.");
        HeavierByHand x = Worlds.small();
        Due.tell(x, "grain 10;wait 1;");
        x.image();
        for (int round = 0; round < 3; round++) {
            for (int i = 1; i < 4; i++) {
                due.is("text()", Due.tell(x, "grain " + (20 + 10 * round + i) + ";wait " + (2 + i) + ";"), i);
                due.is("by(" + i + ")", x.by(i), true);
                due.is("gives", x.gives(1, 0), 20 + 10 * round + i);
            }
            due.is("the 5th", Due.tell(x, "wait 9;"), -1);
            x.back();
            due.is("about(5)", x.about(5), 1);
            for (int i = 1; i < 4; i++) {
                due.is("by(" + i + ")", x.by(i), false);
                due.is("played(" + i + ")", x.played(i), -2);
            }
            due.is("by(0)", x.by(0), true);
            due.is("gives by 0", x.gives(1, 0), 10);
            due.is("played(0)", x.played(0), -1);
            due.is("about(2)", x.about(2), 1);
            x.back();
        }
    }

    private static void textsStayUntilThen() {
        due.sentence("TEXTS told behind it are gone behind going back.");
        HeavierByHand x = Worlds.small();
        Due.tell(x, "grain 10;");
        Due.tell(x, "grain 11;");
        x.image();
        due.is("about(5), an image leaves them", x.about(5), 2);
        Due.tell(x, "grain 12;");
        due.is("about(5)", x.about(5), 3);
        x.back();
        for (int i = 0; i < 2; i++) {
            due.is("by(" + i + ")", x.by(i), true);
            due.is("gives by " + i, x.gives(1, 0), 10 + i);
        }
        // One told behind the image is not gone for the next image.
        Due.tell(x, "grain 13;");
        x.image();
        x.back();
        due.is("by(2)", x.by(2), true);
        due.is("gives by 2", x.gives(1, 0), 13);
    }

    private static void theTextThatIsGone() {
        due.sentence("TEXTS told behind it are gone behind going back.");
        HeavierByHand x = Worlds.small();
        x.image();
        Due.tell(x, "grain 30;");
        x.by(0);
        x.back();
        due.is("about(6), THE TEXT is none again", x.about(6), -1);
        due.is("gives by none", x.gives(1, 0), 7);
        Due.tell(x, "grain 31;");
        due.is("about(6)", x.about(6), -1);
        due.is("gives by none", x.gives(1, 0), 7);
        x.by(0);
        x.image();
        x.by(-1);
        x.back();
        due.is("about(6), THE TEXT of the image", x.about(6), 0);
        due.is("gives by 0", x.gives(1, 0), 31);
    }

    private static void itStays() {
        due.sentence("All is as at THE IMAGE again (it stays): how many COINS there are.");
        HeavierByHand x = imaged();
        for (int i = 0; i < 3; i++) {
            changeAll(x);
            due.is("back()", x.back(), 2);
            isAsThen(x);
            due.is("back() at once", x.back(), 2);
            isAsThen(x);
        }
    }

    private static void laterImage() {
        due.sentence("THE IMAGE is as all is now: how many COINS there are.");
        HeavierByHand x = imaged();
        x.hand(9);
        x.coin(10, 3);
        x.pay(0, 3);
        due.is("image()", x.image(), 3);
        x.pay(0, 0);
        x.undo();
        x.undo();
        x.undo();
        due.is("back()", x.back(), 3);
        due.is("about(0)", x.about(0), 4);
        due.is("about(7)", x.about(7), 3);
        due.is("of(0, 0)", x.of(0, 0), 109);
        due.is("of(0, 1)", x.of(0, 1), 3);
        due.is("of(2, 0)", x.of(2, 0), 10);
    }

    private static void aboutEmpty() {
        due.sentence("0 HANDS, 1 COINS, 2 HOUR, 3 MARKET, 4 ERROR, 5 TEXTS, 6 THE TEXT (NONE), 7 STEPS that can be"
            + " TAKEN BACK, 8 gains of the PURSE, 9 bytes of the tape, 10 + hand: its GRAIN, 20 + hand: the WEIGHT of"
            + " all COINS that it HOLDS. -2 for others.");
        HeavierByHand x = new HeavierByHand();
        int[] empty = {0, 0, 0, 0, 3, 0, -1, 0, 0, 0};
        for (int what = -1; what <= 31; what++) {
            due.is("about(" + what + ") of none", x.about(what), what >= 0 && what < 10 ? empty[what] : -2);
        }
        // A HAND that HOLDS none, and one of whose COINS all weigh 0.
        HeavierByHand y = Worlds.hands(1, 30);
        y.coin(0, 1);
        due.is("about(20)", y.about(20), 0);
        due.is("about(21)", y.about(21), 0);
        due.is("about(22)", y.about(22), -2);
    }

    private static void aboutFull() {
        due.sentence("10 + hand: its GRAIN, 20 + hand: the WEIGHT of all COINS that it HOLDS.");
        HeavierByHand x = Worlds.hands(30, 1, 7, 7, 12, 3, 29, 20, 11, 5);
        int[] grains = {30, 1, 7, 7, 12, 3, 29, 20, 11, 5};
        for (int i = 0; i < 20; i++) {
            x.coin(500, 9);
        }
        for (int hand = 0; hand < 10; hand++) {
            due.is("about(" + (10 + hand) + ")", x.about(10 + hand), grains[hand]);
            due.is("about(" + (20 + hand) + ")", x.about(20 + hand), hand == 9 ? 10000 : 0);
        }
        x.pay(0, 0);
        due.is("about(20)", x.about(20), 530);
        due.is("about(29)", x.about(29), 9500);
        due.is("about(1)", x.about(1), 20);
        HeavierByHand full = Worlds.crowded();
        int[] most = {10, 20, 999, 6, 9, 4, 3, 40, 4, 300};
        for (int what = 0; what < most.length; what++) {
            due.is("about(" + what + ") of the full", full.about(what), most[what]);
        }
    }

    private static void aboutOthers() {
        due.sentence("-2 for others.");
        for (int hands = 0; hands <= 10; hands++) {
            HeavierByHand x = new HeavierByHand();
            for (int i = 0; i < hands; i++) {
                x.hand(1 + i);
            }
            for (int hand = 0; hand < 10; hand++) {
                due.is("about(" + (10 + hand) + ") of " + hands, x.about(10 + hand), hand < hands ? 1 + hand : -2);
                due.is("about(" + (20 + hand) + ") of " + hands, x.about(20 + hand), hand < hands ? 0 : -2);
            }
            for (int what : new int[] {-1, -2, 30, 31, 40, LEAST, GREATEST}) {
                due.is("about(" + what + ")", x.about(what), -2);
            }
        }
    }
}
