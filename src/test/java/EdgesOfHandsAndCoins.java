/** The edges that part I of the terms and promises 1 to 5 name. */
public final class EdgesOfHandsAndCoins {
    private static final int LEAST = Integer.MIN_VALUE;
    private static final int GREATEST = Integer.MAX_VALUE;
    private static final Due due = new Due();

    public static void main(String[] args) {
        none();
        newObject();
        newImage();
        grains();
        tenHands();
        mints();
        heldBy();
        twentyCoins();
        coinsAtFirst();
        trays();
        marketAndError();
        marketAndErrorAtFirst();
        hours();
        hoursBeyond();
        marketDays();
        paid();
        gloved();
        grainAtLeastAndAtMost();
        washed();
        due.end();
    }

    private static void none() {
        due.sentence("The constants: `NONE = -1`: None.");
        due.is("NONE", HeavierByHand.NONE, -1);
    }

    private static void isNew(String when, HeavierByHand x) {
        int[] first = {0, 0, 0, 0, 3, 0, -1, 0, 0};
        for (int what = 0; what < first.length; what++) {
            due.is(when + ": about(" + what + ")", x.about(what), first[what]);
        }
        for (int hand = 0; hand < 10; hand++) {
            due.is(when + ": about(" + (10 + hand) + ")", x.about(10 + hand), -2);
            due.is(when + ": about(" + (20 + hand) + ")", x.about(20 + hand), -2);
        }
        due.is(when + ": of(0, 0)", x.of(0, 0), -1);
        due.is(when + ": undo()", x.undo(), -1);
        due.is(when + ": played(0)", x.played(0), -2);
        due.is(when + ": by(0)", x.by(0), false);
        due.is(when + ": coin(0, 0)", x.coin(0, 0), -1);
        due.is(when + ": gives(0, 0)", x.gives(0, 0), -1);
        due.is(when + ": pay(0, 0)", x.pay(0, 0), -1);
        due.is(when + ": wash(0)", x.wash(0), -1);
        due.is(when + ": rows(0, 0, 0, 0)", x.rows(0, 0, 0, 0), -1);
        due.is(when + ": purse(0, 0)", x.purse(0, 0), -1);
        due.is(when + ": odds(0, 0, 0, 0)", x.odds(0, 0, 0, 0), -1);
        due.is(when + ": told(0, 0)", x.told(0, 0), -1);
        due.is(when + ": tray(0, 0)", x.tray(0, 0), false);
        due.is(when + ": sorted(2, 0)", x.sorted(2, 0), 0);
        due.is(when + ": sorted(2, 1)", x.sorted(2, 1), 0);
        due.is(when + ": read(0, 0)", x.read(0, 0), -100);
        due.is(when + ": market(0, 1)", x.market(0, 1), -1);
    }

    private static void newObject() {
        due.sentence("No HANDS, no COINS; THE IMAGE is this.");
        HeavierByHand x = new HeavierByHand();
        isNew("new", x);
        due.is("new: about(9)", x.about(9), 0);
        due.is("new: fault(0)", x.fault(0), -1);
        due.is("new: fault(1)", x.fault(1), -1);
        due.is("new: back()", new HeavierByHand().back(), 0);
        due.is("new: image()", new HeavierByHand().image(), 0);
    }

    private static void newImage() {
        due.sentence("No HANDS, no COINS; THE IMAGE is this.");
        HeavierByHand x = Worlds.small();
        x.rules(6, 9);
        x.later(99);
        x.purse(0, 3);
        x.tray(0, 5);
        x.pay(0, 1);
        Due.tell(x, "grain 1; wash 0;");
        x.by(0);
        due.is("back()", x.back(), 0);
        isNew("back to the new", x);
    }

    private static void grains() {
        due.sentence("HANDS 0 .. 9 (told one by one): GRAIN (1 .. 30).");
        HeavierByHand x = new HeavierByHand();
        due.is("hand(0)", x.hand(0), -1);
        due.is("hand(31)", x.hand(31), -1);
        due.is("hand(-1)", x.hand(-1), -1);
        due.is("hand of the least", x.hand(LEAST), -1);
        due.is("hand of the greatest", x.hand(GREATEST), -1);
        due.is("about(0)", x.about(0), 0);
        due.is("hand(1)", x.hand(1), 0);
        due.is("hand(30)", x.hand(30), 1);
        due.is("about(10)", x.about(10), 1);
        due.is("about(11)", x.about(11), 30);
        due.is("about(0)", x.about(0), 2);
    }

    private static void tenHands() {
        due.sentence("A HAND: its number. NONE for others, or if there are 10.");
        HeavierByHand x = new HeavierByHand();
        for (int i = 0; i < 10; i++) {
            if (i == 9) {
                x.image();
            }
            due.is("hand " + i, x.hand(20 + i), i);
            due.is("about(0)", x.about(0), i + 1);
        }
        due.is("the 11th hand", x.hand(1), -1);
        due.is("about(0)", x.about(0), 10);
        for (int i = 0; i < 10; i++) {
            due.is("about(" + (10 + i) + ")", x.about(10 + i), 20 + i);
        }
        x.back();
        due.is("the 10th hand behind going back", x.hand(1), 9);
        due.is("the 11th hand behind going back", x.hand(1), -1);
    }

    private static void mints() {
        due.sentence("A COIN: its number. NONE for others, or if there are 20.");
        HeavierByHand x = Worlds.hands(5);
        due.is("coin(-1, 0)", x.coin(-1, 0), -1);
        due.is("coin(501, 0)", x.coin(501, 0), -1);
        due.is("coin of the least", x.coin(LEAST, 0), -1);
        due.is("coin of the greatest", x.coin(GREATEST, 0), -1);
        due.is("about(1)", x.about(1), 0);
        due.is("coin(0, 0)", x.coin(0, 0), 0);
        due.is("coin(500, 0)", x.coin(500, 0), 1);
        due.is("of(0, 3)", x.of(0, 3), 0);
        due.is("of(1, 3)", x.of(1, 3), 500);
        due.is("about(20)", x.about(20), 500);
    }

    private static void heldBy() {
        due.sentence("A COIN: its number. NONE for others, or if there are 20.");
        due.is("coin without HANDS", new HeavierByHand().coin(5, 0), -1);
        for (int hands = 1; hands <= 10; hands++) {
            HeavierByHand x = new HeavierByHand();
            for (int i = 0; i < hands; i++) {
                x.hand(1);
            }
            due.is("coin(5, -1)", x.coin(5, -1), -1);
            due.is("coin(5, " + hands + ")", x.coin(5, hands), -1);
            due.is("coin of the least", x.coin(5, LEAST), -1);
            due.is("coin of the greatest", x.coin(5, GREATEST), -1);
            due.is("coin(5, " + (hands - 1) + ")", x.coin(5, hands - 1), 0);
            due.is("of(0, 1)", x.of(0, 1), hands - 1);
        }
    }

    private static void twentyCoins() {
        due.sentence("A COIN: its number. NONE for others, or if there are 20.");
        HeavierByHand x = Worlds.hands(5);
        for (int i = 0; i < 20; i++) {
            if (i == 19) {
                x.image();
            }
            due.is("coin " + i, x.coin(i, 0), i);
            due.is("about(1)", x.about(1), i + 1);
        }
        due.is("the 21st coin", x.coin(7, 0), -1);
        due.is("about(1)", x.about(1), 20);
        due.is("of(19, 0)", x.of(19, 0), 19);
        due.is("of(20, 0)", x.of(20, 0), -1);
        x.back();
        due.is("the 20th coin behind going back", x.coin(8, 0), 19);
        due.is("the 21st coin behind going back", x.coin(8, 0), -1);
    }

    private static void coinsAtFirst() {
        due.sentence("COINS 0 .. 19 (told one by one): MINT (0 .. 500), at first its WEIGHT; HELD by a HAND;"
            + " TIMES (payments so far; at first 0); a TRAY (0 .. 5) in which it belongs, or none (at first).");
        HeavierByHand x = Worlds.hands(5, 7);
        for (int mint : new int[] {0, 1, 499, 500}) {
            int coin = x.coin(mint, 1);
            int[] first = {mint, 1, 0, mint, -1, 0};
            for (int what = 0; what <= 5; what++) {
                due.is("of(" + coin + ", " + what + ")", x.of(coin, what), first[what]);
            }
        }
        // A COIN told anew in the place of one that is gone has nothing of that.
        x.image();
        int gone = x.coin(9, 0);
        x.tray(gone, 5);
        x.pay(gone, 1);
        x.back();
        due.is("coin(3, 0)", x.coin(3, 0), gone);
        int[] first = {3, 0, 0, 3, -1, 0};
        for (int what = 0; what <= 5; what++) {
            due.is("of(" + gone + ", " + what + ")", x.of(gone, what), first[what]);
        }
    }

    private static void trays() {
        due.sentence("A COIN belongs in a TRAY (NONE: none): true. False for others.");
        HeavierByHand x = Worlds.small();
        for (int tray = -1; tray <= 5; tray++) {
            due.is("tray(0, " + tray + ")", x.tray(0, tray), true);
            due.is("of(0, 4)", x.of(0, 4), tray);
        }
        for (int tray : new int[] {-2, 6, LEAST, GREATEST}) {
            due.is("tray(0, " + tray + ")", x.tray(0, tray), false);
            due.is("of(0, 4)", x.of(0, 4), 5);
        }
        for (int coin : new int[] {-1, 1, LEAST, GREATEST}) {
            due.is("tray(" + coin + ", 0)", x.tray(coin, 0), false);
        }
        due.is("of(0, 4)", x.of(0, 4), 5);
        for (int i = 1; i < 20; i++) {
            x.coin(1, 0);
        }
        due.is("tray(19, 5)", x.tray(19, 5), true);
        due.is("tray(20, 5)", x.tray(20, 5), false);
        due.is("of(19, 4)", x.of(19, 4), 5);
    }

    private static void isRuled(HeavierByHand x, int market, int error) {
        due.is("about(3)", x.about(3), market);
        due.is("about(4)", x.about(4), error);
    }

    private static void marketAndError() {
        due.sentence("MARKET and ERROR: true. False for others.");
        HeavierByHand x = new HeavierByHand();
        int[][] taken = {{0, 0}, {6, 9}, {0, 9}, {6, 0}};
        for (int[] t : taken) {
            due.is("rules(" + t[0] + ", " + t[1] + ")", x.rules(t[0], t[1]), true);
            isRuled(x, t[0], t[1]);
        }
        x.rules(2, 4);
        int[][] others = {{-1, 5}, {7, 5}, {5, -1}, {5, 10}, {LEAST, 5}, {GREATEST, 5}, {5, LEAST}, {5, GREATEST},
            {-1, -1}, {7, 10}};
        for (int[] o : others) {
            due.is("rules(" + o[0] + ", " + o[1] + ")", x.rules(o[0], o[1]), false);
            isRuled(x, 2, 4);
        }
    }

    private static void marketAndErrorAtFirst() {
        due.sentence("ERROR (0 .. 9; at first 3).");
        HeavierByHand x = Worlds.small();
        due.is("about(4)", x.about(4), 3);
        due.is("rows(0, 3, 0, 0)", x.rows(0, 3, 0, 0), 1);
        due.is("rows(0, 4, 0, 0)", x.rows(0, 4, 0, 0), 0);
        x.rules(0, 0);
        due.is("rows(0, 0, 0, 0)", x.rows(0, 0, 0, 0), 1);
        due.is("rows(0, 1, 0, 0)", x.rows(0, 1, 0, 0), 0);
        x.rules(0, 9);
        due.is("rows(0, 9, 0, 0)", x.rows(0, 9, 0, 0), 1);
        due.is("rows(0, 10, 0, 0)", x.rows(0, 10, 0, 0), 0);
    }

    private static void hours() {
        due.sentence("HOUR (0 .. 999; at first 0).");
        HeavierByHand x = new HeavierByHand();
        due.is("about(2)", x.about(2), 0);
        due.is("later(0)", x.later(0), 0);
        for (int i = 1; i <= 10; i++) {
            due.is("later(99)", x.later(99), 99 * i);
        }
        due.is("later(9)", x.later(9), 999);
        due.is("about(2)", x.about(2), 999);
    }

    private static void hoursBeyond() {
        due.sentence("HOUR is n more (0 .. 99): HOUR. NONE for others, and beyond 999.");
        HeavierByHand x = new HeavierByHand();
        for (int n : new int[] {-1, 100, LEAST, GREATEST}) {
            due.is("later(" + n + ")", x.later(n), -1);
            due.is("about(2)", x.about(2), 0);
        }
        due.is("later(99)", x.later(99), 99);
        due.is("later(1)", x.later(1), 100);
        for (int i = 0; i < 8; i++) {
            x.later(99);
        }
        due.is("later(8)", x.later(8), 900);
        due.is("later(1)", x.later(1), 901);
        due.is("later(99) at 901", x.later(99), -1);
        due.is("later(98) at 901", x.later(98), 999);
        due.is("later(1) at 999", x.later(1), -1);
        due.is("later(0) at 999", x.later(0), 999);
        due.is("later(100) at 999", x.later(100), -1);
        due.is("later(-1) at 999", x.later(-1), -1);
        due.is("about(2)", x.about(2), 999);
    }

    /** By a law that gives 50, on market days 51, for each MARKET. */
    private static void isDay(HeavierByHand x, int day) {
        for (int market = 0; market <= 6; market++) {
            x.rules(market, 3);
            due.is("at " + x.about(2) + ": gives by market " + market, x.gives(1, 0), market == day ? 51 : 50);
        }
    }

    private static void marketDays() {
        due.sentence("MARKET (0 .. 6; at first 0): it is market on a DAY (HOUR / 24, cut) that leaves MARKET by 7.");
        HeavierByHand x = Worlds.ruled("grain 50 + market;");
        due.is("gives at first", x.gives(1, 0), 51);
        int[] hours = {0, 23, 24, 47, 48, 143, 144, 167, 168, 191, 192, 335, 336, 983, 984, 999};
        int[] days = {0, 0, 1, 1, 2, 5, 6, 6, 0, 0, 1, 6, 0, 5, 6, 6};
        int hour = 0;
        for (int i = 0; i < hours.length; i++) {
            while (hour < hours[i]) {
                int n = Math.min(99, hours[i] - hour);
                x.later(n);
                hour += n;
            }
            isDay(x, days[i]);
        }
    }

    private static void paid() {
        due.sentence("A COIN paid to a HAND (not the one by which it is HELD) is HELD by that, its TIMES are one more,"
            + " and its WEIGHT is more by what that HAND GIVES then:");
        HeavierByHand x = Worlds.small();
        due.is("pay(0, 0)", x.pay(0, 0), -1);
        due.is("of(0, 2)", x.of(0, 2), 0);
        due.is("pay(0, 2)", x.pay(0, 2), 112);
        due.is("of(0, 1)", x.of(0, 1), 2);
        due.is("of(0, 2)", x.of(0, 2), 1);
        due.is("pay(0, 2)", x.pay(0, 2), -1);
        due.is("of(0, 0)", x.of(0, 0), 112);
        due.is("of(0, 2)", x.of(0, 2), 1);
        due.is("pay(0, 0)", x.pay(0, 0), 117);
        due.is("of(0, 1)", x.of(0, 1), 0);
        due.is("of(0, 2)", x.of(0, 2), 2);
        due.is("of(0, 3)", x.of(0, 3), 100);
        HeavierByHand one = Worlds.hands(4);
        one.coin(9, 0);
        due.is("pay(0, 0) of the only HAND", one.pay(0, 0), -1);
    }

    private static void gloved() {
        due.sentence("0, if it is GLOVED (glove is so; without: never), else grain");
        due.is("without a text", Worlds.small().gives(1, 0), 7);
        due.is("without glove and grain", Worlds.ruled("wait 1;").gives(1, 0), 7);
        due.is("glove is so", Worlds.ruled("glove 1 = 1;").gives(1, 0), 0);
        due.is("glove is not so", Worlds.ruled("glove 1 = 2;").gives(1, 0), 7);
        due.is("glove is so, with grain", Worlds.ruled("glove 1 = 1; grain 9;").gives(1, 0), 0);
        due.is("glove is not so, with grain", Worlds.ruled("glove 1 = 2; grain 9;").gives(1, 0), 9);
        HeavierByHand x = Worlds.ruled("glove 1 = 1; grain 9;");
        due.is("pay(0, 1), gloved", x.pay(0, 1), 100);
        due.is("of(0, 1)", x.of(0, 1), 1);
        due.is("of(0, 2)", x.of(0, 2), 1);
        due.is("about(7)", x.about(7), 1);
    }

    private static void grainAtLeastAndAtMost() {
        due.sentence("(0 at least, 99 at most; without: GRAIN).");
        String[] sums = {"-1000 * 1000", "-1", "0", "1", "98", "99", "100", "1000 * 1000"};
        int[] given = {0, 0, 0, 1, 98, 99, 99, 99};
        for (int i = 0; i < sums.length; i++) {
            HeavierByHand x = Worlds.ruled("grain " + sums[i] + ";");
            due.is("gives by " + sums[i], x.gives(1, 0), given[i]);
            due.is("pay by " + sums[i], x.pay(0, 1), 100 + given[i]);
            due.is("wash by " + sums[i], x.wash(0), given[i]);
        }
        HeavierByHand least = Worlds.hands(5, 1, 30);
        least.coin(0, 0);
        due.is("GRAIN of 1", least.gives(1, 0), 1);
        due.is("GRAIN of 30", least.gives(2, 0), 30);
    }

    private static void washed() {
        due.sentence("A COIN WASHED: its WEIGHT is MINT.");
        for (int mint : new int[] {0, 1, 500}) {
            HeavierByHand x = Worlds.hands(5, 7);
            x.coin(mint, 0);
            due.is("wash(0), never paid", x.wash(0), 0);
            due.is("of(0, 0)", x.of(0, 0), mint);
            x.pay(0, 1);
            x.pay(0, 0);
            due.is("wash(0)", x.wash(0), 12);
            due.is("of(0, 0)", x.of(0, 0), mint);
            due.is("of(0, 1)", x.of(0, 1), 0);
            due.is("of(0, 2)", x.of(0, 2), 2);
            due.is("wash(0) again", x.wash(0), 0);
        }
    }
}
