import java.util.ArrayList;
import java.util.List;
import java.util.Random;
import java.util.TreeSet;

/** Promise 25: SORTED with many COINS, beside trying all CUTS (each 0 .. 999 for few TRAYS). */
public final class SortedSearch {
    private static final Due due = new Due();

    public static void main(String[] args) {
        Random r = new Random(25);
        for (int run = 0; run < 24; run++) {
            int many = run % 2 == 0 ? 20 : 1 + r.nextInt(20);
            int spread = run % 3 == 0 ? 8 : 500;
            HeavierByHand x = new HeavierByHand();
            x.hand(1);
            x.hand(2);
            Due.tell(x, "grain 99;");
            x.by(0);
            int[] weights = new int[many];
            int[] trays = new int[many];
            for (int i = 0; i < many; i++) {
                x.coin(r.nextInt(spread + 1), 0);
                int payments = run % 4 == 1 ? r.nextInt(12) : 0;
                for (int j = 0; j < payments; j++) {
                    x.pay(i, 1 - j % 2);
                }
                weights[i] = x.of(i, 0);
                trays[i] = r.nextInt(5) == 0 ? -1 : r.nextInt(6);
                x.tray(i, trays[i]);
            }
            compare(x, 2, weights, trays, allCuts());
            compare(x, 3, weights, trays, run < 8 ? allCuts() : likelyCuts(weights));
            compare(x, 4, weights, trays, likelyCuts(weights));
            compare(x, 5, weights, trays, likelyCuts(weights));
            compare(x, 6, weights, trays, likelyCuts(weights));
        }
        allUnlike();
        due.end();
    }

    /** Twenty COINS, each of another WEIGHT and each with a TRAY: as many places for CUTS as can be. */
    private static void allUnlike() {
        Random r = new Random(26);
        for (int run = 0; run < 12; run++) {
            HeavierByHand x = new HeavierByHand();
            x.hand(1);
            int[] weights = new int[20];
            int[] trays = new int[20];
            for (int i = 0; i < 20; i++) {
                weights[i] = run % 2 == 0 ? 11 * i : 500 - 7 * i;
                trays[i] = run < 4 ? (weights[i] == (run % 2 == 0 ? 209 : 500) ? run / 2 : 0) : r.nextInt(6);
                x.coin(weights[i], 0);
                x.tray(i, trays[i]);
            }
            for (int t = 2; t <= 6; t++) {
                compare(x, t, weights, trays, likelyCuts(weights));
            }
        }
    }

    private static List<Integer> allCuts() {
        List<Integer> cuts = new ArrayList<>();
        for (int cut = 0; cut <= 999; cut++) {
            cuts.add(cut);
        }
        return cuts;
    }

    /** Any other CUT can be less without parting COINS otherwise. */
    private static List<Integer> likelyCuts(int[] weights) {
        TreeSet<Integer> cuts = new TreeSet<>(List.of(0));
        for (int weight : weights) {
            if (weight < 999) {
                cuts.add(weight + 1);
            }
        }
        return new ArrayList<>(cuts);
    }

    private static void compare(HeavierByHand x, int t, int[] weights, int[] trays, List<Integer> cuts) {
        int[] best = new int[t];
        best[0] = Integer.MAX_VALUE;
        search(cuts, 0, new int[t], 1, weights, trays, best);
        for (int i = 0; i < t; i++) {
            due.is("sorted(" + t + ", " + i + ")", x.sorted(t, i), best[i]);
        }
    }

    private static void search(List<Integer> at, int from, int[] cuts, int n, int[] weights, int[] trays, int[] best) {
        if (n == cuts.length) {
            int wrong = 0;
            for (int i = 0; i < weights.length && wrong < best[0]; i++) {
                int tray = 0;
                for (int j = 1; j < n; j++) {
                    tray += cuts[j] <= weights[i] ? 1 : 0;
                }
                wrong += trays[i] >= 0 && trays[i] != tray ? 1 : 0;
            }
            if (wrong < best[0]) {
                System.arraycopy(cuts, 1, best, 1, n - 1);
                best[0] = wrong;
            }
            return;
        }
        for (int j = from; j < at.size(); j++) {
            cuts[n] = at.get(j);
            search(at, j, cuts, n + 1, weights, trays, best);
        }
    }
}
