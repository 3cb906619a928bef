import java.util.ArrayList;
import java.util.List;
import java.util.Random;

/** All promises: long runs of drawn calls, each answer beside that of the model, which tries all. */
public final class AgainstModel {
    private static int wrong = 0;
    private static long calls = 0;

    private HeavierByHand x = new HeavierByHand();
    private Model m = new Model();
    private final Random r;
    private final int run;
    private final int fewHands;
    private final List<String> told = new ArrayList<>();

    private AgainstModel(int run) {
        this.run = run;
        r = new Random(run * 7919L + 13);
        fewHands = 1 + r.nextInt(10);
    }

    public static void main(String[] args) {
        int runs = args.length > 0 ? Integer.parseInt(args[0]) : 1500;
        for (int run = 0; run < runs && wrong < 5; run++) {
            new AgainstModel(run).go();
        }
        System.out.println(calls + " calls");
        System.out.println(wrong == 0 ? "all answers are as due" : wrong + " answers are not as due");
        if (wrong != 0) {
            System.exit(1);
        }
    }

    private void due(String call, long got, long want) {
        calls++;
        told.add(call + " = " + got);
        if (got != want) {
            wrong++;
            System.out.println("run " + run + ": " + call + " answered " + got + ", due is " + want);
            for (String t : told.subList(Math.max(0, told.size() - 60), told.size())) {
                System.out.println("    " + t);
            }
        }
    }

    private void go() {
        int length = 20 + r.nextInt(490);
        int before = wrong;
        for (int i = 0; i < length && wrong == before; i++) {
            call();
        }
        for (int what = -2; what <= 31; what++) {
            due("about(" + what + ")", x.about(what), m.about(what));
        }
        for (int coin = -1; coin <= 20; coin++) {
            for (int what = -1; what <= 6; what++) {
                due("of(" + coin + ", " + what + ")", x.of(coin, what), m.of(coin, what));
            }
        }
    }

    /** Mostly from low to high, at times just outside, seldom far outside. */
    private int pick(int low, int high) {
        int kind = r.nextInt(40);
        if (kind == 0) {
            return low - 1;
        }
        if (kind == 1) {
            return high + 1;
        }
        if (kind == 2) {
            int[] far = {Integer.MIN_VALUE, Integer.MAX_VALUE, -2, -1, 0, 1000, 1 << 30, Integer.MIN_VALUE + 1};
            return far[r.nextInt(far.length)];
        }
        return low + r.nextInt(high - low + 1);
    }

    private int hands() {
        return Math.max(1, m.w.grains.size());
    }

    private int anyHand() {
        return pick(0, hands() - 1);
    }

    private int anyCoin() {
        return pick(0, Math.max(1, m.w.coins.size()) - 1);
    }

    private void call() {
        switch (r.nextInt(34)) {
            case 0, 1 -> {
                int grain = pick(1, r.nextInt(3) == 0 ? 4 : 30);
                if (m.w.grains.size() < fewHands || r.nextInt(60) == 0) {
                    due("hand(" + grain + ")", x.hand(grain), m.hand(grain));
                }
            }
            case 2, 3 -> {
                int mint = pick(0, r.nextInt(3) == 0 ? 5 : 500);
                int hand = anyHand();
                due("coin(" + mint + ", " + hand + ")", x.coin(mint, hand), m.coin(mint, hand));
            }
            case 4 -> {
                int market = pick(0, 6);
                int error = pick(0, r.nextBoolean() ? 9 : 1);
                due("rules(" + market + ", " + error + ")", x.rules(market, error) ? 1 : 0, m.rules(market, error) ? 1 : 0);
            }
            case 5 -> {
                int n = pick(0, r.nextBoolean() ? 99 : 9);
                due("later(" + n + ")", x.later(n), m.later(n));
            }
            case 6, 7 -> tellText();
            case 8 -> {
                int text = pick(-1, Math.max(0, m.w.texts.size() - 1));
                due("by(" + text + ")", x.by(text) ? 1 : 0, m.by(text) ? 1 : 0);
            }
            case 9 -> {
                int text = pick(0, Math.max(0, m.w.texts.size() - 1));
                due("played(" + text + ")", x.played(text), m.played(text));
            }
            case 10, 11, 12 -> {
                int hand = anyHand();
                int coin = anyCoin();
                due("gives(" + hand + ", " + coin + ")", x.gives(hand, coin), m.gives(hand, coin));
            }
            case 13, 14, 15, 16 -> {
                int hand = anyHand();
                int coin = anyCoin();
                due("pay(" + coin + ", " + hand + ")", x.pay(coin, hand), m.pay(coin, hand));
            }
            case 17 -> {
                int coin = anyCoin();
                due("wash(" + coin + ")", x.wash(coin), m.wash(coin));
            }
            case 18 -> {
                int many = r.nextInt(10) == 0 ? 45 : 1 + r.nextInt(3);
                for (int i = 0; i < many; i++) {
                    due("undo()", x.undo(), m.undo());
                }
            }
            case 19, 20 -> {
                int coin = anyCoin();
                int what = pick(0, 5);
                due("of(" + coin + ", " + what + ")", x.of(coin, what), m.of(coin, what));
            }
            case 21, 22, 23 -> askRows();
            case 24, 25 -> {
                int begin = r.nextInt(12) == 0 ? -1 : anyHand();
                int gain = pick(0, r.nextBoolean() ? 60 : 20);
                due("purse(" + begin + ", " + gain + ")", x.purse(begin, gain), m.purse(begin, gain));
            }
            case 26 -> askPurse();
            case 27 -> {
                int coin = anyCoin();
                int tray = pick(-1, 5);
                long open = m.w.coins.stream().filter(c -> c.tray >= 0).count();
                if (open < 6) {
                    due("tray(" + coin + ", " + tray + ")", x.tray(coin, tray) ? 1 : 0, m.tray(coin, tray) ? 1 : 0);
                } else {
                    due("tray(" + coin + ", -1)", x.tray(coin, -1) ? 1 : 0, m.tray(coin, -1) ? 1 : 0);
                }
            }
            case 28 -> {
                int t = pick(2, 6);
                for (int i = -1; i <= 6; i++) {
                    due("sorted(" + t + ", " + i + ")", x.sorted(t, i), m.sorted(t, i));
                }
            }
            case 29 -> {
                int coin = anyCoin();
                int seed = pick(0, 9999);
                due("read(" + coin + ", " + seed + ")", x.read(coin, seed), m.read(coin, seed));
            }
            case 30 -> {
                int seed = pick(0, 9999);
                int n = pick(1, r.nextInt(4) == 0 ? 99 : 6);
                due("market(" + seed + ", " + n + ")", x.market(seed, n), m.market(seed, n));
            }
            case 31 -> {
                if (r.nextInt(3) == 0) {
                    due("image()", x.image(), m.image());
                }
            }
            case 32 -> {
                if (r.nextInt(3) == 0) {
                    due("back()", x.back(), m.back());
                }
            }
            default -> {
                int what = pick(0, 29);
                due("about(" + what + ")", x.about(what), m.about(what));
                int which = pick(0, 1);
                due("fault(" + which + ")", x.fault(which), m.fault(which));
            }
        }
    }

    private void askRows() {
        int longest = 0;
        long many = 1;
        while (longest < 12 && many * Math.max(1, hands() - 1) <= 5000) {
            many *= Math.max(1, hands() - 1);
            longest++;
        }
        int begin = anyHand();
        int high = r.nextInt(15) == 0 ? pick(12, 12) : r.nextInt(longest + 1);
        int low = r.nextInt(15) == 0 ? pick(0, 12) : r.nextInt(Math.max(0, Math.min(high, 12)) + 1);
        int gain = pick(0, r.nextInt(5) == 0 ? 999 : r.nextBoolean() ? 20 : 25 * Math.max(1, Math.min(longest, 12)));
        // What is well formed and too long to try all of is left to another test.
        if (high > longest && high <= 12 && low >= 0 && low <= high) {
            high = 13;
        }
        String in = begin + ", " + gain + ", " + low + ", " + high;
        due("rows(" + in + ")", x.rows(begin, gain, low, high), m.rows(begin, gain, low, high));
        for (int i = -2; i <= 13; i++) {
            if (i < 3 || r.nextInt(3) == 0) {
                due("row(" + in + ", " + i + ")", x.row(begin, gain, low, high, i), m.row(begin, gain, low, high, i));
            }
        }
        due("among(" + in + ", false)", x.among(begin, gain, low, high, false), m.among(begin, gain, low, high, false));
        due("among(" + in + ", true)", x.among(begin, gain, low, high, true), m.among(begin, gain, low, high, true));
    }

    private void askPurse() {
        int most = hands() > 7 ? 3 : 4;
        int high = r.nextInt(12) == 0 ? 5 : r.nextInt(most + 1);
        int low = r.nextInt(12) == 0 ? pick(0, 4) : r.nextInt(Math.min(4, high) + 1);
        int hand = anyHand();
        int what = pick(0, 1);
        due("odds(" + hand + ", " + low + ", " + high + ", " + what + ")", x.odds(hand, low, high, what), m.odds(hand, low, high, what));
        due("odds(" + hand + ", " + low + ", " + high + ", 1)", x.odds(hand, low, high, 1), m.odds(hand, low, high, 1));
        due("told(" + low + ", " + high + ")", x.told(low, high), m.told(low, high));
    }

    private void tellText() {
        String text = new Texts(r).any();
        due("end(0)", x.end(0), m.end(0));
        int at = 0;
        while (at < text.length() && at < 320) {
            int[] five = new int[5];
            for (int i = 0; i < 20; i++) {
                int c = at + i < text.length() ? text.charAt(at + i) : ' ';
                five[i / 4] = five[i / 4] << 8 | c & 255;
            }
            due("feed(..)", x.feed(five[0], five[1], five[2], five[3], five[4]), m.feed(five));
            at += 20;
        }
        if (r.nextInt(20) != 0) {
            int n = r.nextInt(30) == 0 ? pick(0, 300) : Math.min(300, text.length());
            due("end(" + n + ")", x.end(n), m.end(n));
        }
        due("text() of [" + text + "]", x.text(), m.text());
        due("fault(0)", x.fault(0), m.fault(0));
        due("fault(1)", x.fault(1), m.fault(1));
        due("about(9)", x.about(9), m.about(9));
        if (r.nextBoolean()) {
            int last = m.w.texts.size() - 1;
            due("by(" + last + ")", x.by(last) ? 1 : 0, m.by(last) ? 1 : 0);
        }
    }
}
