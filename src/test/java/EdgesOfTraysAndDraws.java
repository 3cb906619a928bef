/** The edges that part IV of the terms names for TRAYS, scales and markets, and promises 24 to 27. */
public final class EdgesOfTraysAndDraws {
    private static final int LEAST = Integer.MIN_VALUE;
    private static final int GREATEST = Integer.MAX_VALUE;
    private static final Due due = new Due();

    public static void main(String[] args) {
        sortedOthers();
        twoToSixTrays();
        sortedOfNone();
        notAbove();
        cutsAtNoughtAndAtTheMost();
        beyondTheMostCut();
        likeCuts();
        wrong();
        leastCuts();
        allCoins();
        coinsInAnyOrder();
        coinsSideBySide();
        seeds();
        leastAndMostDrawn();
        errorOfNought();
        readOthers();
        drawsGoOn();
        drawsWrap();
        turns();
        marketOthers();
        bothAreOne();
        leastWeight();
        noCoin();
        hours();
        due.end();
    }

    private static void sortedOthers() {
        due.sentence("SORTED into t TRAYS: the least WRONG (i 0); the i-th CUT (i 1 .. t - 1). NONE for others.");
        HeavierByHand x = Worlds.small();
        for (int t = 2; t <= 6; t++) {
            due.is("sorted(" + t + ", -1)", x.sorted(t, -1), -1);
            for (int i = 0; i < t; i++) {
                due.is("sorted(" + t + ", " + i + ")", x.sorted(t, i), 0);
            }
            due.is("sorted(" + t + ", " + t + ")", x.sorted(t, t), -1);
            due.is("sorted(" + t + ", 6)", x.sorted(t, 6), -1);
            due.is("sorted of the least", x.sorted(t, LEAST), -1);
            due.is("sorted of the greatest", x.sorted(t, GREATEST), -1);
        }
        for (int t : new int[] {1, 7, 0, -1, LEAST, GREATEST}) {
            due.is("sorted(" + t + ", 0)", x.sorted(t, 0), -1);
            due.is("sorted(" + t + ", 1)", x.sorted(t, 1), -1);
        }
    }

    private static void twoToSixTrays() {
        due.sentence("SORTED into t TRAYS (2 to 6):");
        HeavierByHand x = Worlds.hands(1);
        x.coin(10, 0);
        x.coin(20, 0);
        x.tray(0, 0);
        for (int t = 1; t <= 7; t++) {
            // The heavier one in the last of them, and in the first that is beyond.
            x.tray(1, Math.min(5, t - 1));
            due.is("sorted(" + t + ", 0), the last TRAY", x.sorted(t, 0), t < 2 || t > 6 ? -1 : 0);
            due.is("sorted(" + t + ", 1), the last TRAY", x.sorted(t, 1), t < 2 || t > 6 ? -1 : 11);
            if (t <= 5) {
                x.tray(1, t);
                due.is("sorted(" + t + ", 0), beyond", x.sorted(t, 0), t < 2 ? -1 : 1);
            }
        }
    }

    private static void sortedOfNone() {
        due.sentence("WRONG: COINS with a TRAY that lie in another one.");
        HeavierByHand x = Worlds.small();
        due.is("sorted(6, 0) of a COIN without a TRAY", x.sorted(6, 0), 0);
        due.is("sorted(6, 5) of a COIN without a TRAY", x.sorted(6, 5), 0);
        x.tray(0, 0);
        due.is("sorted(2, 1)", x.sorted(2, 1), 101);
        x.tray(0, -1);
        due.is("sorted(2, 0)", x.sorted(2, 0), 0);
        due.is("sorted(2, 1)", x.sorted(2, 1), 0);
        HeavierByHand none = new HeavierByHand();
        due.is("sorted(2, 0) without COINS", none.sorted(2, 0), 0);
        due.is("sorted(6, 5) without COINS", none.sorted(6, 5), 0);
    }

    private static void notAbove() {
        due.sentence("a COIN lies in the TRAY that is how many CUTS are not above its WEIGHT.");
        // A CUT at the WEIGHT counts, one above it does not: so 100 parts 99 from 100.
        HeavierByHand x = Worlds.hands(1);
        x.coin(99, 0);
        x.coin(100, 0);
        x.tray(0, 0);
        x.tray(1, 1);
        due.is("sorted(2, 0)", x.sorted(2, 0), 0);
        due.is("sorted(2, 1)", x.sorted(2, 1), 100);
        x.tray(0, 1);
        x.tray(1, 0);
        due.is("sorted(2, 0), the other way", x.sorted(2, 0), 1);
        due.is("sorted(2, 1), the other way", x.sorted(2, 1), 0);
        x.tray(0, 0);
        due.is("sorted(2, 1), both below", x.sorted(2, 1), 101);
    }

    private static void cutsAtNoughtAndAtTheMost() {
        due.sentence("by CUTS c1 <= c2 <= .. (t - 1 of them, each 0 .. 999):");
        HeavierByHand x = Worlds.hands(1);
        x.coin(0, 0);
        x.tray(0, 1);
        due.is("sorted(2, 0) of 0", x.sorted(2, 0), 0);
        due.is("sorted(2, 1) of 0", x.sorted(2, 1), 0);
        x.tray(0, 0);
        due.is("sorted(2, 0) of 0", x.sorted(2, 0), 0);
        due.is("sorted(2, 1) of 0", x.sorted(2, 1), 1);
        HeavierByHand y = heavy(998);
        due.is("sorted(2, 0) of 998", y.sorted(2, 0), 0);
        due.is("sorted(2, 1) of 998", y.sorted(2, 1), 999);
        due.is("sorted(6, 0) of 998", y.sorted(6, 0), 0);
        due.is("sorted(6, 1) of 998", y.sorted(6, 1), 999);
        due.is("sorted(6, 5) of 998", y.sorted(6, 5), 999);
    }

    /** A COIN of 500 made this heavy (up to 1094) by six payments of 99 at most, in TRAY 0. */
    private static HeavierByHand heavy(int weight) {
        HeavierByHand x = Worlds.hands(1, 1);
        x.coin(500, 0);
        x.tray(0, 0);
        Due.tell(x, "grain " + weight + " - weight;");
        x.by(0);
        for (int i = 1; i <= 6; i++) {
            x.pay(0, i % 2);
        }
        due.is("of(0, 0)", x.of(0, 0), weight);
        return x;
    }

    private static void beyondTheMostCut() {
        due.sentence("by CUTS c1 <= c2 <= .. (t - 1 of them, each 0 .. 999):");
        for (int weight : new int[] {999, 1000, 1094}) {
            HeavierByHand x = heavy(weight);
            // No CUT is above it: it lies in the last TRAY always.
            for (int t = 2; t <= 6; t++) {
                for (int tray = 0; tray <= 5; tray++) {
                    x.tray(0, tray);
                    due.is("sorted(" + t + ", 0) of " + weight + " in " + tray, x.sorted(t, 0), tray == t - 1 ? 0 : 1);
                    due.is("sorted(" + t + ", 1) of " + weight + " in " + tray, x.sorted(t, 1), 0);
                }
            }
        }
    }

    private static void likeCuts() {
        due.sentence("by CUTS c1 <= c2 <= .. (t - 1 of them, each 0 .. 999):");
        HeavierByHand x = Worlds.hands(1);
        x.coin(100, 0);
        for (int t = 2; t <= 6; t++) {
            for (int tray = 0; tray < 6; tray++) {
                x.tray(0, tray);
                due.is("sorted(" + t + ", 0) in " + tray, x.sorted(t, 0), tray < t ? 0 : 1);
                for (int i = 1; i < t; i++) {
                    // As many CUTS at 0 as it has below it, all others just above it.
                    due.is("sorted(" + t + ", " + i + ") in " + tray, x.sorted(t, i), i <= tray || tray >= t ? 0 : 101);
                }
            }
        }
    }

    private static void wrong() {
        due.sentence("WRONG: COINS with a TRAY that lie in another one.");
        HeavierByHand x = Worlds.hands(1);
        for (int i = 0; i < 6; i++) {
            x.coin(10 * i, 0);
            x.tray(i, i);
        }
        for (int t = 2; t <= 6; t++) {
            // A TRAY that is not among t is WRONG always.
            due.is("sorted(" + t + ", 0)", x.sorted(t, 0), 6 - t);
        }
        for (int i = 1; i <= 5; i++) {
            due.is("sorted(6, " + i + ")", x.sorted(6, i), 10 * (i - 1) + 1);
        }
        for (int i = 0; i < 6; i++) {
            x.tray(i, 5 - i);
        }
        // From the heaviest down: one of them can lie right.
        due.is("sorted(6, 0), the other way", x.sorted(6, 0), 5);
    }

    private static void leastCuts() {
        due.sentence("The least WRONG; of like ones the least c1, then c2, ..");
        HeavierByHand x = Worlds.hands(1);
        x.coin(100, 0);
        x.coin(200, 0);
        x.tray(0, 0);
        x.tray(1, 1);
        due.is("sorted(2, 1)", x.sorted(2, 1), 101);
        due.is("sorted(3, 1)", x.sorted(3, 1), 101);
        due.is("sorted(3, 2)", x.sorted(3, 2), 201);
        x.tray(1, 2);
        due.is("sorted(3, 1)", x.sorted(3, 1), 101);
        due.is("sorted(3, 2)", x.sorted(3, 2), 101);
        x.tray(0, 1);
        due.is("sorted(3, 1)", x.sorted(3, 1), 0);
        due.is("sorted(3, 2)", x.sorted(3, 2), 101);
        // Two of one WEIGHT in two TRAYS: one is WRONG either way, and the CUT is least.
        x.tray(0, 0);
        x.tray(1, -1);
        x.coin(100, 0);
        x.tray(2, 1);
        due.is("sorted(2, 0)", x.sorted(2, 0), 1);
        due.is("sorted(2, 1)", x.sorted(2, 1), 0);
    }

    private static void allCoins() {
        due.sentence("The least WRONG; of like ones the least c1, then c2, ..");
        HeavierByHand x = Worlds.hands(1);
        for (int i = 0; i < 20; i++) {
            x.coin(25 * i, 0);
            x.tray(i, i < 10 ? 0 : 1);
        }
        due.is("sorted(2, 0) of 20", x.sorted(2, 0), 0);
        due.is("sorted(2, 1) of 20", x.sorted(2, 1), 226);
        x.tray(19, 0);
        due.is("sorted(2, 0) of 20", x.sorted(2, 0), 1);
        x.tray(19, 2);
        due.is("sorted(3, 0) of 20", x.sorted(3, 0), 0);
        due.is("sorted(3, 2) of 20", x.sorted(3, 2), 451);
        for (int i = 0; i < 20; i++) {
            x.tray(i, 5);
        }
        due.is("sorted(5, 0), all WRONG", x.sorted(5, 0), 20);
        due.is("sorted(5, 4), all WRONG", x.sorted(5, 4), 0);
        due.is("sorted(6, 0), none WRONG", x.sorted(6, 0), 0);
        for (int i = 0; i < 20; i++) {
            x.tray(i, 0);
        }
        due.is("sorted(2, 1), above all", x.sorted(2, 1), 476);
    }

    /** The same COINS told from the lightest, from the heaviest, and crosswise; some of like WEIGHT. */
    private static void coinsInAnyOrder() {
        due.sentence("The least WRONG; of like ones the least c1, then c2, ..");
        int[] weights = {0, 0, 10, 20, 20, 30, 40, 50, 50, 60};
        int[] trays = {0, 0, 0, 1, 1, 2, 2, 3, 3, 4};
        int[] cuts = {11, 21, 41, 51};
        int[][] orders = {{0, 1, 2, 3, 4, 5, 6, 7, 8, 9}, {9, 8, 7, 6, 5, 4, 3, 2, 1, 0}, {5, 0, 9, 4, 1, 8, 3, 2, 7, 6}};
        for (int[] order : orders) {
            HeavierByHand x = Worlds.hands(1);
            for (int i = 0; i < order.length; i++) {
                x.coin(weights[order[i]], 0);
                x.tray(i, trays[order[i]]);
            }
            due.is("sorted(5, 0)", x.sorted(5, 0), 0);
            for (int i = 1; i <= 4; i++) {
                due.is("sorted(5, " + i + ")", x.sorted(5, i), cuts[i - 1]);
            }
            due.is("sorted(6, 5)", x.sorted(6, 5), 61);
            due.is("sorted(4, 0)", x.sorted(4, 0), 1);
            due.is("sorted(4, 3)", x.sorted(4, 3), 41);
        }
    }

    /** WEIGHTS side by side: each CUT is at one of them and just above another. */
    private static void coinsSideBySide() {
        due.sentence("a COIN lies in the TRAY that is how many CUTS are not above its WEIGHT.");
        int[][] orders = {{0, 1, 2, 3}, {3, 2, 1, 0}, {2, 0, 3, 1}, {1, 3, 0, 2}};
        for (int[] order : orders) {
            HeavierByHand x = Worlds.hands(1);
            for (int i = 0; i < 4; i++) {
                x.coin(100 + order[i], 0);
                x.tray(i, order[i]);
            }
            due.is("sorted(4, 0)", x.sorted(4, 0), 0);
            for (int i = 1; i <= 3; i++) {
                due.is("sorted(4, " + i + ")", x.sorted(4, i), 100 + i);
            }
            due.is("sorted(2, 0)", x.sorted(2, 0), 2);
            due.is("sorted(2, 1)", x.sorted(2, 1), 101);
        }
    }

    private static void seeds() {
        due.sentence("READ by a SEED: X is SEED (0 .. 9999) * 7 + 2; WEIGHT less ERROR and a draw by 2 ERROR + 1 more;");
        HeavierByHand x = Worlds.small();
        for (int error = 0; error <= 9; error++) {
            x.rules(0, error);
            // 4305 and 4306: 30137 and 30144, the first that a draw would wrap; 69995 is X of the last SEED.
            for (int seed : new int[] {0, 1, 2, 4304, 4305, 4306, 8610, 8611, 9998, 9999}) {
                int want = 100 - error + (seed * 7 + 2) % (2 * error + 1);
                due.is("read(0, " + seed + ") by " + error, x.read(0, seed), want);
                due.is("read(0, " + seed + ") by " + error + " again", x.read(0, seed), want);
            }
        }
        due.is("of(0, 0)", x.of(0, 0), 100);
    }

    private static void leastAndMostDrawn() {
        due.sentence("a draw by m: X mod m,");
        HeavierByHand x = Worlds.small();
        x.coin(0, 0);
        x.rules(0, 9);
        // SEED 16: 114 is 6 * 19; SEED 5: 37 is 19 + 18.
        due.is("read(0, 16)", x.read(0, 16), 91);
        due.is("read(0, 5)", x.read(0, 5), 109);
        due.is("read(1, 16), below 0", x.read(1, 16), -9);
        due.is("read(1, 5)", x.read(1, 5), 9);
        x.rules(0, 1);
        // 9, 16 and 23 leave 0, 1 and 2 by 3.
        due.is("read(0, 1)", x.read(0, 1), 99);
        due.is("read(0, 2)", x.read(0, 2), 100);
        due.is("read(0, 3)", x.read(0, 3), 101);
    }

    private static void errorOfNought() {
        due.sentence("WEIGHT less ERROR and a draw by 2 ERROR + 1 more;");
        HeavierByHand x = Worlds.small();
        x.rules(0, 0);
        for (int seed : new int[] {0, 1, 5000, 9999}) {
            due.is("read(0, " + seed + ")", x.read(0, seed), 100);
        }
    }

    private static void readOthers() {
        due.sentence("READ by a SEED. -100 for others.");
        HeavierByHand x = Worlds.small();
        due.is("read(0, 0)", x.read(0, 0), 99);
        for (int seed : new int[] {-1, 10000, LEAST, GREATEST}) {
            due.is("read(0, " + seed + ")", x.read(0, seed), -100);
        }
        for (int coin : new int[] {-1, 1, 20, LEAST, GREATEST}) {
            due.is("read(" + coin + ", 0)", x.read(coin, 0), -100);
        }
        for (int i = 1; i < 20; i++) {
            x.coin(i, 0);
        }
        due.is("read(19, 0)", x.read(19, 0), 18);
        due.is("read(20, 0)", x.read(20, 0), -100);
        due.is("read without COINS", new HeavierByHand().read(0, 0), -100);
    }

    /** HANDS that HOLD two COINS each, so that every turn of two unlike HANDS is a payment at first. */
    private static HeavierByHand busy(int hands) {
        HeavierByHand x = new HeavierByHand();
        for (int i = 0; i < hands; i++) {
            x.hand(1);
        }
        for (int i = 0; i < 2 * hands; i++) {
            x.coin(500, i % hands);
        }
        return x;
    }

    private static void drawsGoOn() {
        due.sentence("X being (X * 227 + 59) mod 30137 then.");
        // SEED 0: 2, 513, 26099, 17680, 5198, 4662: by 3 HAND 2 to 0, 2 to 1, 2 to 0, and 2 has none then.
        HeavierByHand x = Worlds.small();
        x.coin(10, 2);
        x.coin(20, 2);
        due.is("market(0, 1)", x.market(0, 1), 1);
        due.is("of(1, 1), by HAND 0 now", x.of(1, 1), 0);
        HeavierByHand y = Worlds.small();
        y.coin(10, 2);
        y.coin(20, 2);
        due.is("market(0, 3)", y.market(0, 3), 2);
        due.is("of(1, 1)", y.of(1, 1), 0);
        due.is("of(2, 1)", y.of(2, 1), 1);
        due.is("of(1, 0)", y.of(1, 0), 15);
        due.is("of(2, 0)", y.of(2, 0), 27);
    }

    private static void drawsWrap() {
        due.sentence("A MARKET of n turns by a SEED: each: a HAND pays by a draw (of all),");
        for (int hands = 1; hands <= 10; hands++) {
            for (int seed : new int[] {0, 1, 4305, 4306, 9998, 9999}) {
                for (int turns : new int[] {1, 2, 99}) {
                    drawn(hands, seed, turns);
                }
            }
        }
    }

    private static void drawn(int hands, int seed, int turns) {
        HeavierByHand x = busy(hands);
        long drawn = seed * 7L + 2;
        int paid = 0;
        int[] held = new int[hands];
        java.util.Arrays.fill(held, 2);
        for (int turn = 0; turn < turns; turn++) {
            int from = (int) (drawn % hands);
            drawn = (drawn * 227 + 59) % 30137;
            int to = (int) (drawn % hands);
            drawn = (drawn * 227 + 59) % 30137;
            if (from != to && held[from] > 0) {
                held[from]--;
                held[to]++;
                paid++;
            }
        }
        due.is("market(" + seed + ", " + turns + ") of " + hands, x.market(seed, turns), paid);
        for (int hand = 0; hand < hands; hand++) {
            int holds = 0;
            for (int coin = 0; coin < 2 * hands; coin++) {
                holds += x.of(coin, 1) == hand ? 1 : 0;
            }
            due.is("COINS of HAND " + hand + " behind " + seed, holds, held[hand]);
        }
    }

    private static void turns() {
        due.sentence("A MARKET of n turns (1 .. 99): how many payments.");
        HeavierByHand x = Worlds.small();
        due.is("market(0, 0)", x.market(0, 0), -1);
        due.is("about(2)", x.about(2), 0);
        due.is("market(0, 100)", x.market(0, 100), -1);
        due.is("about(2)", x.about(2), 0);
        due.is("market(0, 1), HAND 2 has none", x.market(0, 1), 0);
        due.is("about(2)", x.about(2), 1);
        due.is("market(0, 99) is done", x.market(0, 99) >= 0, true);
        due.is("about(2)", x.about(2), 100);
    }

    private static void marketOthers() {
        due.sentence("NONE for others, and without HANDS.");
        HeavierByHand x = Worlds.small();
        for (int seed : new int[] {-1, 10000, LEAST, GREATEST}) {
            due.is("market(" + seed + ", 1)", x.market(seed, 1), -1);
        }
        for (int n : new int[] {0, 100, -1, LEAST, GREATEST}) {
            due.is("market(0, " + n + ")", x.market(0, n), -1);
        }
        due.is("about(2)", x.about(2), 0);
        due.is("about(7)", x.about(7), 0);
        due.is("market(9999, 1) is done", x.market(9999, 1) >= 0, true);
        due.is("about(2)", x.about(2), 1);
        HeavierByHand none = new HeavierByHand();
        due.is("market(0, 1) without HANDS", none.market(0, 1), -1);
        due.is("about(2)", none.about(2), 0);
        none.hand(1);
        due.is("market(0, 1) with a HAND", none.market(0, 1), 0);
        due.is("about(2)", none.about(2), 1);
    }

    private static void bothAreOne() {
        due.sentence("another HAND gets by a draw (of all; if both are one, nobody pays):");
        HeavierByHand one = Worlds.hands(5);
        one.coin(10, 0);
        due.is("market(0, 99) of one HAND", one.market(0, 99), 0);
        due.is("of(0, 0)", one.of(0, 0), 10);
        due.is("of(0, 2)", one.of(0, 2), 0);
        due.is("about(2)", one.about(2), 99);
        due.is("about(7)", one.about(7), 0);
        // SEED 1: 9, 2102, ..: by 7 HANDS 2 and 2.
        HeavierByHand seven = Worlds.hands(5, 5, 5, 5, 5, 5, 5);
        seven.coin(10, 2);
        due.is("market(1, 1)", seven.market(1, 1), 0);
        due.is("of(0, 2)", seven.of(0, 2), 0);
        due.is("about(2)", seven.about(2), 1);
    }

    private static void leastWeight() {
        due.sentence("the COIN of least WEIGHT that the first HOLDS, of like ones the lowest;");
        // SEED 0 of three HANDS: HAND 2 pays to 0.
        int[][] mints = {{5, 6, 7}, {7, 5, 6}, {6, 7, 5}, {5, 5, 5}, {6, 5, 5}, {5, 6, 5}, {0, 0, 500}, {500, 500, 0}};
        int[] paid = {0, 1, 2, 0, 1, 0, 0, 2};
        for (int i = 0; i < mints.length; i++) {
            HeavierByHand x = Worlds.hands(5, 7, 12);
            for (int mint : mints[i]) {
                x.coin(mint, 2);
            }
            // Lighter ones that others HOLD are none of it.
            x.coin(0, 0);
            x.coin(0, 1);
            due.is("market(0, 1)", x.market(0, 1), 1);
            for (int coin = 0; coin < 3; coin++) {
                due.is("of(" + coin + ", 1) of " + i, x.of(coin, 1), coin == paid[i] ? 0 : 2);
                due.is("of(" + coin + ", 0) of " + i, x.of(coin, 0), mints[i][coin] + (coin == paid[i] ? 5 : 0));
            }
            due.is("of(3, 2)", x.of(3, 2), 0);
            due.is("of(4, 2)", x.of(4, 2), 0);
        }
        // By WEIGHT, not by MINT.
        HeavierByHand y = Worlds.hands(5, 7, 12);
        y.coin(5, 1);
        y.coin(6, 2);
        y.pay(0, 2);
        y.market(0, 1);
        due.is("of(1, 1)", y.of(1, 1), 0);
        due.is("of(0, 1)", y.of(0, 1), 2);
    }

    private static void noCoin() {
        due.sentence("none: nobody pays.");
        HeavierByHand x = Worlds.hands(5, 7, 12);
        due.is("market(0, 1) without COINS", x.market(0, 1), 0);
        due.is("about(2)", x.about(2), 1);
        x.coin(5, 0);
        x.coin(5, 1);
        due.is("market(0, 1), HAND 2 has none", x.market(0, 1), 0);
        due.is("about(2)", x.about(2), 2);
        due.is("about(7)", x.about(7), 0);
    }

    private static void hours() {
        due.sentence("Behind each turn HOUR is one more (999 at most).");
        HeavierByHand x = Worlds.hands(5);
        for (int i = 0; i < 10; i++) {
            x.later(99);
        }
        x.later(7);
        due.is("about(2)", x.about(2), 997);
        int[] then = {998, 999, 999, 999};
        for (int hour : then) {
            due.is("market(0, 1)", x.market(0, 1), 0);
            due.is("about(2)", x.about(2), hour);
        }
        due.is("market(0, 99)", x.market(0, 99), 0);
        due.is("about(2)", x.about(2), 999);
        // Behind the turn: the first payment is by the HOUR ahead of it, the second by the next one.
        HeavierByHand y = Worlds.hands(5, 7, 12);
        y.coin(10, 2);
        y.coin(20, 2);
        Due.tell(y, "grain 30 + hour;");
        y.by(0);
        y.later(22);
        y.market(0, 2);
        due.is("of(0, 0) at 22", y.of(0, 0), 62);
        due.is("of(1, 0) at 23", y.of(1, 0), 73);
        due.is("about(2)", y.about(2), 24);
    }
}
