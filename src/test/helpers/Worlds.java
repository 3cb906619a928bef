/** Objects to begin with: one in which nothing is at its first value, and one in which all is full. */
final class Worlds {
    /** HANDS, COINS and TEXTS that usual() has told. */
    static final int HANDS = 4;
    static final int COINS = 5;
    static final int TEXTS = 2;

    private Worlds() {
    }

    static HeavierByHand hands(int... grains) {
        HeavierByHand x = new HeavierByHand();
        for (int grain : grains) {
            x.hand(grain);
        }
        return x;
    }

    /** Three HANDS and a COIN of 100 that HAND 0 HOLDS. */
    static HeavierByHand small() {
        HeavierByHand x = hands(5, 7, 12);
        x.coin(100, 0);
        return x;
    }

    /** Two HANDS and a COIN by a law, which rules. */
    static HeavierByHand ruled(String law) {
        HeavierByHand x = hands(5, 7);
        x.coin(100, 0);
        Due.tell(x, law);
        x.by(0);
        return x;
    }

    static HeavierByHand usual() {
        HeavierByHand x = hands(5, 7, 12, 3);
        int[] mints = {100, 50, 0, 500, 50};
        int[] holders = {0, 2, 1, 3, 2};
        for (int i = 0; i < COINS; i++) {
            x.coin(mints[i], holders[i]);
        }
        x.tray(0, 2);
        x.tray(1, 0);
        x.tray(3, 5);
        x.rules(2, 1);
        x.later(40);
        Due.tell(x, "glove hand = 3; grain own + hour; pay 0 to 3; wait 2; wash 0; pay 4 to 0;");
        x.by(0);
        x.purse(0, 12);
        x.pay(0, 1);
        x.pay(1, 0);
        x.wash(0);
        x.image();
        x.rules(1, 2);
        Due.tell(x, "grain 9 - market; wait 5; wash 2; pay 2 to 3;");
        x.pay(2, 0);
        x.pay(0, 2);
        x.market(5, 3);
        x.purse(1, 19);
        x.tray(4, 1);
        Due.tell(x, "grain (((((((((1;");
        Due.feed(x, "wait 3; wash 1;");
        return x;
    }

    static HeavierByHand crowded() {
        HeavierByHand x = hands(30, 1, 7, 7, 12, 3, 29, 20, 11, 5);
        for (int i = 0; i < 20; i++) {
            x.coin(i == 7 ? 0 : 500 - 20 * (i / 2), i % 10);
            x.tray(i, i % 6);
        }
        for (int i = 0; i < 4; i++) {
            Due.tell(x, "grain own + " + i + "; wash " + i + "; pay 19 to 9; wait 1;");
            x.purse(i, 10 + 7 * i);
        }
        x.by(3);
        x.rules(6, 9);
        for (int i = 0; i < 9; i++) {
            x.later(99);
        }
        x.market(1234, 99);
        x.later(9);
        x.market(77, 50);
        x.image();
        x.pay(0, x.of(0, 1) == 1 ? 2 : 1);
        Due.feed(x, "wait 1;" + " ".repeat(293));
        return x;
    }
}
