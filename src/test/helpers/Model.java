import java.util.ArrayList;
import java.util.List;

/** The document once more, in the slowest and plainest way: lists, trees and trying all. Other ways than the class's. */
final class Model {
    static final class Coin {
        int mint;
        int weight;
        int held;
        int times;
        int tray = -1;

        Coin copy() {
            Coin c = new Coin();
            c.mint = mint;
            c.weight = weight;
            c.held = held;
            c.times = times;
            c.tray = tray;
            return c;
        }
    }

    record Step(int coin, int weight, int held, int times) {
    }

    static final class World {
        List<Integer> grains = new ArrayList<>();
        List<Coin> coins = new ArrayList<>();
        int hour = 0;
        int market = 0;
        int error = 3;
        List<ModelText> texts = new ArrayList<>();
        int ruling = -1;
        List<Step> steps = new ArrayList<>();
        List<int[]> purse = new ArrayList<>();

        World copy() {
            World w = new World();
            w.grains.addAll(grains);
            for (Coin c : coins) {
                w.coins.add(c.copy());
            }
            w.hour = hour;
            w.market = market;
            w.error = error;
            w.texts.addAll(texts);
            w.ruling = ruling;
            w.steps.addAll(steps);
            w.purse.addAll(purse);
            return w;
        }
    }

    World w = new World();
    World kept = new World();
    StringBuilder tape = new StringBuilder();
    int fault = -1;
    int faultPlace = -1;

    int hand(int grain) {
        if (grain < 1 || grain > 30 || w.grains.size() == 10) {
            return -1;
        }
        w.grains.add(grain);
        return w.grains.size() - 1;
    }

    int coin(int mint, int hand) {
        if (mint < 0 || mint > 500 || !isHand(hand) || w.coins.size() == 20) {
            return -1;
        }
        Coin c = new Coin();
        c.mint = mint;
        c.weight = mint;
        c.held = hand;
        w.coins.add(c);
        return w.coins.size() - 1;
    }

    boolean rules(int market, int error) {
        if (market < 0 || market > 6 || error < 0 || error > 9) {
            return false;
        }
        w.market = market;
        w.error = error;
        return true;
    }

    int later(int n) {
        if (n < 0 || n > 99 || w.hour + n > 999) {
            return -1;
        }
        w.hour += n;
        return w.hour;
    }

    int feed(int... fives) {
        if (tape.length() + 20 > 300) {
            return -1;
        }
        for (int five : fives) {
            for (int i = 3; i >= 0; i--) {
                tape.append((char) ((five >> 8 * i) & 0xff));
            }
        }
        return tape.length();
    }

    int end(int n) {
        if (n < 0 || n > tape.length()) {
            return -1;
        }
        tape.setLength(n);
        return n;
    }

    int text() {
        if (w.texts.size() == 4) {
            return -1;
        }
        String all = tape.toString();
        tape.setLength(0);
        try {
            w.texts.add(new ModelText(all));
            fault = 0;
            faultPlace = -1;
            return w.texts.size() - 1;
        } catch (ModelText.Fault f) {
            fault = f.why;
            faultPlace = f.place;
            return -1;
        }
    }

    int fault(int what) {
        return what == 0 ? fault : what == 1 ? faultPlace : -1;
    }

    boolean by(int text) {
        if (text < -1 || text >= w.texts.size()) {
            return false;
        }
        w.ruling = text;
        return true;
    }

    int gives(int hand, int coin) {
        if (!isHand(hand) || !isCoin(coin) || w.coins.get(coin).held == hand) {
            return -1;
        }
        Coin c = w.coins.get(coin);
        if (w.ruling < 0) {
            return w.grains.get(hand);
        }
        ModelText t = w.texts.get(w.ruling);
        int day = w.hour / 24;
        long[] names = {hand, w.grains.get(hand), w.hour % 24, day % 7 == w.market ? 1 : 0, c.weight, c.times, c.held};
        if (t.glove != null && t.glove.value(names) == 1) {
            return 0;
        }
        if (t.grain == null) {
            return w.grains.get(hand);
        }
        long g = t.grain.value(names);
        return g < 0 ? 0 : g > 99 ? 99 : (int) g;
    }

    int pay(int coin, int hand) {
        int more = gives(hand, coin);
        if (more < 0) {
            return -1;
        }
        Coin c = w.coins.get(coin);
        step(coin);
        c.held = hand;
        c.times++;
        c.weight += more;
        return c.weight;
    }

    int wash(int coin) {
        if (!isCoin(coin)) {
            return -1;
        }
        step(coin);
        Coin c = w.coins.get(coin);
        int lost = c.weight - c.mint;
        c.weight = c.mint;
        return lost;
    }

    private void step(int coin) {
        Coin c = w.coins.get(coin);
        w.steps.add(new Step(coin, c.weight, c.held, c.times));
        if (w.steps.size() > 40) {
            w.steps.remove(0);
        }
    }

    int played(int text) {
        if (text < 0 || text >= w.texts.size()) {
            return -2;
        }
        List<int[]> clauses = w.texts.get(text).clauses;
        for (int i = 0; i < clauses.size(); i++) {
            int[] c = clauses.get(i);
            boolean done = switch (c[0]) {
                case 'p' -> pay(c[1], c[2]) >= 0;
                case 'w' -> wash(c[1]) >= 0;
                case 't' -> later(c[1]) >= 0;
                default -> true;
            };
            if (!done) {
                return i;
            }
        }
        return -1;
    }

    int undo() {
        if (w.steps.isEmpty()) {
            return -1;
        }
        Step s = w.steps.remove(w.steps.size() - 1);
        Coin c = w.coins.get(s.coin());
        c.weight = s.weight();
        c.held = s.held();
        c.times = s.times();
        return s.coin();
    }

    int of(int coin, int what) {
        if (!isCoin(coin)) {
            return -1;
        }
        Coin c = w.coins.get(coin);
        switch (what) {
            case 0: return c.weight;
            case 1: return c.held;
            case 2: return c.times;
            case 3: return c.mint;
            case 4: return c.tray;
            case 5:
                if (c.times > 12) {
                    return -1;
                }
                for (int b = 0; b < w.grains.size(); b++) {
                    if (anyRow(b, c.weight - c.mint, c.times)) {
                        return 0;
                    }
                }
                return 1;
            default: return -1;
        }
    }

    /** By the set of (last, sum), as all ROWS of 12 of 10 HANDS are too many to try. */
    private boolean anyRow(int begin, int gain, int length) {
        java.util.Set<List<Integer>> ends = new java.util.HashSet<>();
        ends.add(List.of(begin, 0));
        for (int i = 0; i < length; i++) {
            java.util.Set<List<Integer>> next = new java.util.HashSet<>();
            for (List<Integer> e : ends) {
                for (int h = 0; h < w.grains.size(); h++) {
                    if (h != e.get(0)) {
                        next.add(List.of(h, e.get(1) + w.grains.get(h)));
                    }
                }
            }
            ends = next;
        }
        for (List<Integer> e : ends) {
            if (Math.abs(e.get(1) - gain) <= w.error) {
                return true;
            }
        }
        return false;
    }

    /** All ROWS in their ORDER. */
    List<List<Integer>> allRows(int begin, int gain, int low, int high) {
        List<List<Integer>> found = new ArrayList<>();
        for (int k = low; k <= high; k++) {
            addRows(begin, gain, k, new ArrayList<>(), found);
        }
        return found;
    }

    private void addRows(int ahead, int rest, int more, List<Integer> row, List<List<Integer>> found) {
        if (rest + w.error < 0) {
            return;
        }
        if (more == 0) {
            if (Math.abs(rest) <= w.error) {
                found.add(new ArrayList<>(row));
            }
            return;
        }
        for (int h = 0; h < w.grains.size(); h++) {
            if (h != ahead) {
                row.add(h);
                addRows(h, rest - w.grains.get(h), more - 1, row, found);
                row.remove(row.size() - 1);
            }
        }
    }

    private boolean rowsOther(int begin, int gain, int low, int high) {
        return !isHand(begin) || gain < 0 || gain > 999 || low < 0 || low > high || high > 12;
    }

    long rows(int begin, int gain, int low, int high) {
        return rowsOther(begin, gain, low, high) ? -1 : allRows(begin, gain, low, high).size();
    }

    int row(int begin, int gain, int low, int high, int i) {
        if (rowsOther(begin, gain, low, high)) {
            return -1;
        }
        List<List<Integer>> all = allRows(begin, gain, low, high);
        if (all.isEmpty()) {
            return -1;
        }
        List<Integer> first = all.get(0);
        return i == -1 ? first.size() : i >= 0 && i < first.size() ? first.get(i) : -1;
    }

    int among(int begin, int gain, int low, int high, boolean some) {
        if (rowsOther(begin, gain, low, high)) {
            return -1;
        }
        List<List<Integer>> all = allRows(begin, gain, low, high);
        int bits = 0;
        for (int h = 0; h < w.grains.size(); h++) {
            int in = 0;
            for (List<Integer> row : all) {
                in += row.contains(h) ? 1 : 0;
            }
            if (some ? in > 0 : !all.isEmpty() && in == all.size()) {
                bits |= 1 << h;
            }
        }
        return bits;
    }

    int purse(int begin, int gain) {
        if (begin == -1) {
            w.purse.clear();
            return 0;
        }
        if (!isHand(begin) || gain < 0 || gain > 999 || w.purse.size() == 4) {
            return -1;
        }
        w.purse.add(new int[] {begin, gain});
        return w.purse.size();
    }

    long odds(int hand, int low, int high, int what) {
        if (!isHand(hand) || low < 0 || low > high || high > 4 || what < 0 || what > 1) {
            return -1;
        }
        java.math.BigInteger up = java.math.BigInteger.ONE;
        java.math.BigInteger down = java.math.BigInteger.ONE;
        for (int[] g : w.purse) {
            List<List<Integer>> all = allRows(g[0], g[1], low, high);
            long in = all.stream().filter(r -> r.contains(hand)).count();
            up = up.multiply(java.math.BigInteger.valueOf(in));
            down = down.multiply(java.math.BigInteger.valueOf(all.size()));
        }
        if (down.signum() == 0) {
            return -1;
        }
        java.math.BigInteger d = up.gcd(down);
        return (what == 0 ? up : down).divide(d).longValueExact();
    }

    int told(int low, int high) {
        if (low < 0 || low > high || high > 4) {
            return -1;
        }
        List<List<List<Integer>>> each = new ArrayList<>();
        for (int[] g : w.purse) {
            each.add(allRows(g[0], g[1], low, high));
        }
        for (List<List<Integer>> all : each) {
            if (all.isEmpty()) {
                return -1;
            }
        }
        int found = -1;
        int many = 0;
        for (int h = 0; h < w.grains.size(); h++) {
            boolean in = true;
            for (List<List<Integer>> all : each) {
                for (List<Integer> row : all) {
                    in &= row.contains(h);
                }
            }
            if (in) {
                found = h;
                many++;
            }
        }
        return many == 1 ? found : -1;
    }

    boolean tray(int coin, int tray) {
        if (!isCoin(coin) || tray < -1 || tray > 5) {
            return false;
        }
        w.coins.get(coin).tray = tray;
        return true;
    }

    /** Tries all CUTS at 0, at 999, at each WEIGHT and one above: no other one parts COINS otherwise or is less. */
    int sorted(int t, int i) {
        if (t < 2 || t > 6 || i < 0 || i > t - 1) {
            return -1;
        }
        java.util.TreeSet<Integer> at = new java.util.TreeSet<>(List.of(0, 999));
        for (Coin c : w.coins) {
            if (c.tray >= 0) {
                at.add(Math.min(999, c.weight));
                at.add(Math.min(999, c.weight + 1));
            }
        }
        int[] best = new int[t];
        best[0] = 1000;
        tryCuts(new ArrayList<>(at), 0, new int[t], 1, best);
        return best[i];
    }

    private void tryCuts(List<Integer> at, int from, int[] cuts, int n, int[] best) {
        if (n == cuts.length) {
            int wrong = 0;
            for (Coin c : w.coins) {
                int tray = 0;
                for (int j = 1; j < cuts.length; j++) {
                    tray += cuts[j] <= c.weight ? 1 : 0;
                }
                wrong += c.tray >= 0 && c.tray != tray ? 1 : 0;
            }
            if (wrong < best[0]) {
                System.arraycopy(cuts, 0, best, 0, cuts.length);
                best[0] = wrong;
            }
            return;
        }
        for (int j = from; j < at.size(); j++) {
            cuts[n] = at.get(j);
            tryCuts(at, j, cuts, n + 1, best);
        }
    }

    private long x;

    private int draw(int m) {
        int d = (int) (x % m);
        x = (x * 227 + 59) % 30137;
        return d;
    }

    int read(int coin, int seed) {
        if (!isCoin(coin) || seed < 0 || seed > 9999) {
            return -100;
        }
        x = seed * 7L + 2;
        return w.coins.get(coin).weight - w.error + draw(2 * w.error + 1);
    }

    int market(int seed, int n) {
        if (seed < 0 || seed > 9999 || n < 1 || n > 99 || w.grains.isEmpty()) {
            return -1;
        }
        x = seed * 7L + 2;
        int paid = 0;
        for (int i = 0; i < n; i++) {
            int from = draw(w.grains.size());
            int to = draw(w.grains.size());
            if (from != to) {
                int best = -1;
                for (int c = w.coins.size() - 1; c >= 0; c--) {
                    if (w.coins.get(c).held == from && (best < 0 || w.coins.get(c).weight <= w.coins.get(best).weight)) {
                        best = c;
                    }
                }
                if (best >= 0) {
                    pay(best, to);
                    paid++;
                }
            }
            if (w.hour < 999) {
                w.hour++;
            }
        }
        return paid;
    }

    int image() {
        kept = w.copy();
        return w.coins.size();
    }

    int back() {
        w = kept.copy();
        return w.coins.size();
    }

    int about(int what) {
        if (what >= 10 && what < 10 + w.grains.size()) {
            return w.grains.get(what - 10);
        }
        if (what >= 20 && what < 20 + w.grains.size()) {
            return w.coins.stream().filter(c -> c.held == what - 20).mapToInt(c -> c.weight).sum();
        }
        return switch (what) {
            case 0 -> w.grains.size();
            case 1 -> w.coins.size();
            case 2 -> w.hour;
            case 3 -> w.market;
            case 4 -> w.error;
            case 5 -> w.texts.size();
            case 6 -> w.ruling;
            case 7 -> w.steps.size();
            case 8 -> w.purse.size();
            case 9 -> tape.length();
            default -> -2;
        };
    }

    private boolean isHand(int hand) {
        return hand >= 0 && hand < w.grains.size();
    }

    private boolean isCoin(int coin) {
        return coin >= 0 && coin < w.coins.size();
    }
}
