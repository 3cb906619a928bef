import java.util.function.Supplier;

/** What each promise says of others: what a refused call answers, and that it leaves all as it was. */
public final class EdgesRefused {
    private static final int LEAST = Integer.MIN_VALUE;
    private static final int GREATEST = Integer.MAX_VALUE;
    private static final Due due = new Due();

    public static void main(String[] args) {
        hand();
        coin();
        rules();
        later();
        feed();
        end();
        text();
        fault();
        by();
        gives();
        pay();
        wash();
        played();
        undo();
        of();
        rows();
        purse();
        odds();
        told();
        chosen();
        tray();
        sorted();
        read();
        market();
        about();
        questionsThatAreAnswered();
        due.end();
    }

    /** Just outside of low to high, on both sides, and as far outside as can be. */
    private static int[] outside(int low, int high) {
        return new int[] {low - 1, high + 1, LEAST, GREATEST};
    }

    private static void hand() {
        due.sentence("NONE for others, or if there are 10.");
        for (int grain : outside(1, 30)) {
            due.leaves("hand(" + grain + ")", Worlds::usual, x -> x.hand(grain), -1);
        }
        for (int grain : new int[] {1, 30}) {
            due.leaves("hand(" + grain + ") of 10", Worlds::crowded, x -> x.hand(grain), -1);
        }
    }

    private static void coin() {
        due.sentence("NONE for others, or if there are 20.");
        for (int mint : outside(0, 500)) {
            due.leaves("coin(" + mint + ", 0)", Worlds::usual, x -> x.coin(mint, 0), -1);
        }
        for (int hand : outside(0, Worlds.HANDS - 1)) {
            due.leaves("coin(7, " + hand + ")", Worlds::usual, x -> x.coin(7, hand), -1);
        }
        due.leaves("coin(0, 0) without HANDS", HeavierByHand::new, x -> x.coin(0, 0), -1);
        due.leaves("coin(0, 0) of 20", Worlds::crowded, x -> x.coin(0, 0), -1);
        due.leaves("coin(500, 9) of 20", Worlds::crowded, x -> x.coin(500, 9), -1);
    }

    private static void rules() {
        due.sentence("False for others.");
        for (int market : outside(0, 6)) {
            due.leaves("rules(" + market + ", 0)", Worlds::usual, x -> x.rules(market, 0) ? 1 : 0, 0);
        }
        for (int error : outside(0, 9)) {
            due.leaves("rules(0, " + error + ")", Worlds::usual, x -> x.rules(0, error) ? 1 : 0, 0);
        }
        due.leaves("rules(7, 10)", Worlds::usual, x -> x.rules(7, 10) ? 1 : 0, 0);
    }

    /** An object at such an HOUR. */
    private static HeavierByHand at(int hour) {
        HeavierByHand x = Worlds.small();
        for (int i = 0; i < hour / 99; i++) {
            x.later(99);
        }
        x.later(hour % 99);
        return x;
    }

    private static void later() {
        due.sentence("NONE for others, and beyond 999.");
        for (int n : outside(0, 99)) {
            due.leaves("later(" + n + ")", Worlds::usual, x -> x.later(n), -1);
        }
        due.leaves("later(1) at 999", Worlds::crowded, x -> x.later(1), -1);
        due.leaves("later(99) at 999", Worlds::crowded, x -> x.later(99), -1);
        due.leaves("later(2) at 998", () -> at(998), x -> x.later(2), -1);
        due.leaves("later(99) at 901", () -> at(901), x -> x.later(99), -1);
    }

    /** An object whose tape has so many bytes: a script, and blanks behind it. */
    private static HeavierByHand taped(int bytes) {
        HeavierByHand x = Worlds.small();
        Due.feed(x, "wait 3;" + " ".repeat(bytes - 7));
        return x;
    }

    private static void feed() {
        due.sentence("NONE, and none come, if there would be more than 300.");
        for (int bytes : new int[] {281, 282, 299, 300}) {
            due.leaves("feed at " + bytes, () -> taped(bytes), x -> x.feed(1, 2, 3, 4, 5), -1);
        }
        due.leaves("feed at 300", Worlds::crowded, x -> x.feed(-1, -1, -1, -1, -1), -1);
    }

    private static void end() {
        due.sentence("NONE, and nothing is done, if it has not so many, or n is below 0.");
        for (int n : outside(0, 15)) {
            due.leaves("end(" + n + ") of 15", Worlds::usual, x -> x.end(n), -1);
        }
        due.leaves("end(301) of 300", Worlds::crowded, x -> x.end(301), -1);
        due.leaves("end(1) of none", HeavierByHand::new, x -> x.end(1), -1);
        due.leaves("end(-1) of none", HeavierByHand::new, x -> x.end(-1), -1);
    }

    private static HeavierByHand withFourTexts(String tape) {
        HeavierByHand x = Worlds.small();
        Due.tell(x, "grain 10000;");
        for (int i = 0; i < 4; i++) {
            Due.tell(x, "grain " + i + ";");
        }
        Due.feed(x, tape);
        return x;
    }

    private static void text() {
        due.sentence("NONE: it has a FAULT; or (the tape stays) there are 4.");
        due.leaves("text() of 4", Worlds::crowded, HeavierByHand::text, -1);
        due.leaves("text() of 4", () -> withFourTexts("grain 4;"), HeavierByHand::text, -1);
        due.leaves("text() of 4 with a FAULT", () -> withFourTexts("grain 4"), HeavierByHand::text, -1);
        due.leaves("text() of 4 and no tape", () -> withFourTexts(""), HeavierByHand::text, -1);
    }

    private static void fault() {
        due.sentence("NONE for others, and ahead of any.");
        for (int what : outside(0, 1)) {
            due.leaves("fault(" + what + ")", Worlds::usual, x -> x.fault(what), -1);
        }
        due.leaves("fault(0) ahead of any", Worlds::small, x -> x.fault(0), -1);
        due.leaves("fault(1) ahead of any", Worlds::small, x -> x.fault(1), -1);
    }

    private static void by() {
        due.sentence("THE TEXT (NONE: none): true. False for others.");
        for (int text : outside(-1, Worlds.TEXTS - 1)) {
            due.leaves("by(" + text + ")", Worlds::usual, x -> x.by(text) ? 1 : 0, 0);
        }
        due.leaves("by(4) of 4", Worlds::crowded, x -> x.by(4) ? 1 : 0, 0);
        due.leaves("by(0) of none", Worlds::small, x -> x.by(0) ? 1 : 0, 0);
    }

    private static void gives() {
        due.sentence("What a HAND GIVES to a COIN now. NONE for others, and by whom it is HELD.");
        for (int hand : outside(0, Worlds.HANDS - 1)) {
            due.leaves("gives(" + hand + ", 0)", Worlds::usual, x -> x.gives(hand, 0), -1);
        }
        for (int coin : outside(0, Worlds.COINS - 1)) {
            due.leaves("gives(0, " + coin + ")", Worlds::usual, x -> x.gives(0, coin), -1);
        }
        for (int coin = 0; coin < Worlds.COINS; coin++) {
            int one = coin;
            due.leaves("gives of its holder, " + coin, Worlds::usual, x -> x.gives(x.of(one, 1), one), -1);
        }
        due.leaves("gives(10, 0) of 10", Worlds::crowded, x -> x.gives(10, 0), -1);
        due.leaves("gives(0, 20) of 20", Worlds::crowded, x -> x.gives(0, 20), -1);
        due.leaves("gives(0, 0) of none", HeavierByHand::new, x -> x.gives(0, 0), -1);
    }

    private static void pay() {
        due.sentence("A COIN is paid to a HAND: its WEIGHT. NONE for others, and by whom it is HELD.");
        for (int hand : outside(0, Worlds.HANDS - 1)) {
            due.leaves("pay(0, " + hand + ")", Worlds::usual, x -> x.pay(0, hand), -1);
        }
        for (int coin : outside(0, Worlds.COINS - 1)) {
            due.leaves("pay(" + coin + ", 0)", Worlds::usual, x -> x.pay(coin, 0), -1);
        }
        for (int coin = 0; coin < Worlds.COINS; coin++) {
            int one = coin;
            due.leaves("pay to its holder, " + coin, Worlds::usual, x -> x.pay(one, x.of(one, 1)), -1);
        }
        due.leaves("pay(0, 10) of 10", Worlds::crowded, x -> x.pay(0, 10), -1);
        due.leaves("pay(20, 0) of 20", Worlds::crowded, x -> x.pay(20, 0), -1);
        due.leaves("pay(0, 0) of none", HeavierByHand::new, x -> x.pay(0, 0), -1);
    }

    private static void wash() {
        due.sentence("A COIN is WASHED: how much it lost. NONE for others.");
        for (int coin : outside(0, Worlds.COINS - 1)) {
            due.leaves("wash(" + coin + ")", Worlds::usual, x -> x.wash(coin), -1);
        }
        due.leaves("wash(20) of 20", Worlds::crowded, x -> x.wash(20), -1);
        due.leaves("wash(0) of none", HeavierByHand::new, x -> x.wash(0), -1);
    }

    private static HeavierByHand scripted(String script) {
        HeavierByHand x = Worlds.small();
        x.pay(0, 1);
        Due.tell(x, script);
        return x;
    }

    private static void played() {
        due.sentence("-2 for others.");
        for (int text : outside(0, Worlds.TEXTS - 1)) {
            due.leaves("played(" + text + ")", Worlds::usual, x -> x.played(text), -2);
        }
        due.leaves("played(4) of 4", Worlds::crowded, x -> x.played(4), -2);
        due.leaves("played(0) of none", Worlds::small, x -> x.played(0), -2);
        due.sentence("else the number of the CLAUSE that can't be (what was done stays)");
        String[] cant = {"wash 1;", "pay 1 to 0;", "pay 0 to 3;", "pay 0 to 1;"};
        for (String script : cant) {
            due.leaves("played of " + script, () -> scripted(script), x -> x.played(0), 0);
        }
        Supplier<HeavierByHand> atTheLastHour = () -> {
            HeavierByHand x = at(999);
            Due.tell(x, "wait 1;");
            return x;
        };
        due.leaves("played of a wait beyond 999", atTheLastHour, x -> x.played(0), 0);
    }

    private static void undo() {
        due.sentence("TAKEN BACK: the COIN. NONE: there is no STEP.");
        due.leaves("undo() of a new object", HeavierByHand::new, HeavierByHand::undo, -1);
        due.leaves("undo() without STEPS", Worlds::small, HeavierByHand::undo, -1);
        Supplier<HeavierByHand> allTakenBack = () -> {
            HeavierByHand x = Worlds.small();
            x.pay(0, 1);
            x.wash(0);
            x.undo();
            x.undo();
            return x;
        };
        due.leaves("undo() of all taken back", allTakenBack, HeavierByHand::undo, -1);
    }

    private static void of() {
        due.sentence("NONE for others (5: TIMES above 12).");
        for (int coin : outside(0, Worlds.COINS - 1)) {
            for (int what = 0; what <= 5; what++) {
                int which = what;
                due.leaves("of(" + coin + ", " + what + ")", Worlds::usual, x -> x.of(coin, which), -1);
            }
        }
        for (int what : outside(0, 5)) {
            due.leaves("of(0, " + what + ")", Worlds::usual, x -> x.of(0, what), -1);
        }
        due.leaves("of(20, 0) of 20", Worlds::crowded, x -> x.of(20, 0), -1);
    }

    private static void rowsRefused(int begin, int gain, int low, int high) {
        String in = begin + ", " + gain + ", " + low + ", " + high;
        due.leaves("rows(" + in + ")", Worlds::usual, x -> x.rows(begin, gain, low, high), -1);
        due.leaves("row(" + in + ", -1)", Worlds::usual, x -> x.row(begin, gain, low, high, -1), -1);
        due.leaves("row(" + in + ", 0)", Worlds::usual, x -> x.row(begin, gain, low, high, 0), -1);
        due.leaves("among(" + in + ", false)", Worlds::usual, x -> x.among(begin, gain, low, high, false), -1);
        due.leaves("among(" + in + ", true)", Worlds::usual, x -> x.among(begin, gain, low, high, true), -1);
    }

    private static void rows() {
        due.sentence("ROWS for a gain (0 .. 999) from one who begins: how many. NONE for others.");
        for (int begin : outside(0, Worlds.HANDS - 1)) {
            rowsRefused(begin, 12, 0, 12);
        }
        for (int gain : outside(0, 999)) {
            rowsRefused(0, gain, 0, 12);
        }
        for (int low : outside(0, 12)) {
            rowsRefused(0, 12, low, 12);
        }
        for (int high : outside(0, 12)) {
            rowsRefused(0, 12, 0, high);
        }
        rowsRefused(0, 12, 1, 0);
        rowsRefused(0, 12, 12, 11);
        rowsRefused(0, 12, 13, 13);
        rowsRefused(0, 12, -1, -1);
    }

    private static void purse() {
        due.sentence("NONE for others, or if it has 4.");
        for (int begin : new int[] {-2, Worlds.HANDS, LEAST, GREATEST}) {
            due.leaves("purse(" + begin + ", 12)", Worlds::usual, x -> x.purse(begin, 12), -1);
        }
        for (int gain : outside(0, 999)) {
            due.leaves("purse(0, " + gain + ")", Worlds::usual, x -> x.purse(0, gain), -1);
        }
        due.leaves("purse(0, 0) of 4", Worlds::crowded, x -> x.purse(0, 0), -1);
        due.leaves("purse(9, 999) of 4", Worlds::crowded, x -> x.purse(9, 999), -1);
        due.leaves("purse(0, 0) without HANDS", HeavierByHand::new, x -> x.purse(0, 0), -1);
    }

    private static void odds() {
        due.sentence("NONE for others, and without WAYS.");
        for (int hand : outside(0, Worlds.HANDS - 1)) {
            due.leaves("odds(" + hand + ", 0, 4, 1)", Worlds::usual, x -> x.odds(hand, 0, 4, 1), -1);
        }
        for (int low : outside(0, 4)) {
            due.leaves("odds(0, " + low + ", 4, 1)", Worlds::usual, x -> x.odds(0, low, 4, 1), -1);
        }
        for (int high : outside(0, 4)) {
            due.leaves("odds(0, 0, " + high + ", 1)", Worlds::usual, x -> x.odds(0, 0, high, 1), -1);
        }
        for (int what : outside(0, 1)) {
            due.leaves("odds(0, 0, 4, " + what + ")", Worlds::usual, x -> x.odds(0, 0, 4, what), -1);
        }
        due.leaves("odds(0, 4, 3, 0)", Worlds::usual, x -> x.odds(0, 4, 3, 0), -1);
        due.leaves("odds(0, 0, 0, 0) without WAYS", Worlds::usual, x -> x.odds(0, 0, 0, 0), -1);
        due.leaves("odds(0, 0, 0, 1) without WAYS", Worlds::usual, x -> x.odds(0, 0, 0, 1), -1);
        due.leaves("odds(0, 0, 4, 1) without HANDS", HeavierByHand::new, x -> x.odds(0, 0, 4, 1), -1);
    }

    private static void told() {
        due.sentence("TOLD (high 4 at most). NONE: none, and for others.");
        for (int low : outside(0, 4)) {
            due.leaves("told(" + low + ", 4)", Worlds::usual, x -> x.told(low, 4), -1);
        }
        for (int high : outside(0, 4)) {
            due.leaves("told(0, " + high + ")", Worlds::usual, x -> x.told(0, high), -1);
        }
        due.leaves("told(4, 3)", Worlds::usual, x -> x.told(4, 3), -1);
        due.leaves("told(0, 0) without WAYS", Worlds::usual, x -> x.told(0, 0), -1);
        due.leaves("told(0, 4) without HANDS", HeavierByHand::new, x -> x.told(0, 4), -1);
    }

    private static void chosen() {
        due.sentence("CHOSEN: the i-th GRAIN (from 0). NONE: there is none such, and for others.");
        for (int n : outside(2, 5)) {
            due.leaves("chosen(" + n + ", 1, 0)", Worlds::usual, x -> x.chosen(n, 1, 0), -1);
        }
        for (int k : outside(1, 3)) {
            due.leaves("chosen(2, " + k + ", 0)", Worlds::usual, x -> x.chosen(2, k, 0), -1);
        }
        for (int i : outside(0, 4)) {
            due.leaves("chosen(5, 3, " + i + ")", Worlds::usual, x -> x.chosen(5, 3, i), -1);
        }
    }

    private static void tray() {
        due.sentence("A COIN belongs in a TRAY (NONE: none): true. False for others.");
        for (int coin : outside(0, Worlds.COINS - 1)) {
            due.leaves("tray(" + coin + ", 3)", Worlds::usual, x -> x.tray(coin, 3) ? 1 : 0, 0);
        }
        for (int tray : outside(-1, 5)) {
            due.leaves("tray(0, " + tray + ")", Worlds::usual, x -> x.tray(0, tray) ? 1 : 0, 0);
        }
        due.leaves("tray(20, 0) of 20", Worlds::crowded, x -> x.tray(20, 0) ? 1 : 0, 0);
    }

    private static void sorted() {
        due.sentence("SORTED into t TRAYS: the least WRONG (i 0); the i-th CUT (i 1 .. t - 1). NONE for others.");
        for (int t : outside(2, 6)) {
            due.leaves("sorted(" + t + ", 0)", Worlds::usual, x -> x.sorted(t, 0), -1);
        }
        for (int t = 2; t <= 6; t++) {
            int trays = t;
            for (int i : outside(0, t - 1)) {
                due.leaves("sorted(" + t + ", " + i + ")", Worlds::usual, x -> x.sorted(trays, i), -1);
            }
        }
    }

    private static void read() {
        due.sentence("READ by a SEED. -100 for others.");
        for (int coin : outside(0, Worlds.COINS - 1)) {
            due.leaves("read(" + coin + ", 0)", Worlds::usual, x -> x.read(coin, 0), -100);
        }
        for (int seed : outside(0, 9999)) {
            due.leaves("read(0, " + seed + ")", Worlds::usual, x -> x.read(0, seed), -100);
        }
        due.leaves("read(20, 0) of 20", Worlds::crowded, x -> x.read(20, 0), -100);
    }

    private static void market() {
        due.sentence("A MARKET of n turns (1 .. 99): how many payments. NONE for others, and without HANDS.");
        for (int seed : outside(0, 9999)) {
            due.leaves("market(" + seed + ", 9)", Worlds::usual, x -> x.market(seed, 9), -1);
        }
        for (int n : outside(1, 99)) {
            due.leaves("market(0, " + n + ")", Worlds::usual, x -> x.market(0, n), -1);
        }
        due.leaves("market(0, 1) without HANDS", HeavierByHand::new, x -> x.market(0, 1), -1);
    }

    private static void about() {
        due.sentence("-2 for others.");
        for (int what : new int[] {-1, LEAST, GREATEST, 10 + Worlds.HANDS, 19, 20 + Worlds.HANDS, 29, 30}) {
            due.leaves("about(" + what + ")", Worlds::usual, x -> x.about(what), -2);
        }
        due.leaves("about(30) of 10", Worlds::crowded, x -> x.about(30), -2);
    }

    /** What only asks changes nothing when it is answered, either. */
    private static void questionsThatAreAnswered() {
        due.sentence("");
        HeavierByHand x = Worlds.usual();
        due.leaves("gives", Worlds::usual, y -> y.gives(1, 3), x.gives(1, 3));
        due.leaves("of", Worlds::usual, y -> y.of(0, 5), x.of(0, 5));
        due.leaves("rows", Worlds::usual, y -> y.rows(3, 40, 0, 12), x.rows(3, 40, 0, 12));
        due.leaves("row", Worlds::usual, y -> y.row(3, 40, 0, 12, 1), x.row(3, 40, 0, 12, 1));
        due.leaves("among", Worlds::usual, y -> y.among(3, 40, 0, 12, true), x.among(3, 40, 0, 12, true));
        due.leaves("odds", Worlds::usual, y -> y.odds(2, 0, 4, 1), x.odds(2, 0, 4, 1));
        due.leaves("told", Worlds::usual, y -> y.told(0, 4), x.told(0, 4));
        due.leaves("chosen", Worlds::usual, y -> y.chosen(5, 3, 4), x.chosen(5, 3, 4));
        due.leaves("sorted", Worlds::usual, y -> y.sorted(6, 5), x.sorted(6, 5));
        due.leaves("read", Worlds::usual, y -> y.read(4, 9999), x.read(4, 9999));
        due.leaves("about", Worlds::usual, y -> y.about(20), x.about(20));
        due.leaves("fault", Worlds::usual, y -> y.fault(0), 3);
        due.leaves("later(0)", Worlds::usual, y -> y.later(0), x.about(2));
        due.leaves("end of all", Worlds::usual, y -> y.end(15), 15);
    }
}
