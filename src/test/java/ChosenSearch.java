/** Promise 23: finds every CHOSEN again, by trying all GRAINS. */
public final class ChosenSearch {
    private static int wrong = 0;

    public static void main(String[] args) {
        HeavierByHand x = new HeavierByHand();
        for (int n = 2; n <= 5; n++) {
            for (int k = 1; k <= 3; k++) {
                int[] found = search(n, k);
                for (int i = -1; i <= n; i++) {
                    int due = found == null || i < 0 || i >= n ? -1 : found[i];
                    int got = x.chosen(n, k, i);
                    if (got != due) {
                        wrong++;
                        System.out.println("chosen(" + n + ", " + k + ", " + i + ") answered " + got + ", due is " + due);
                    }
                }
            }
        }
        for (int[] other : new int[][] {{1, 1, 0}, {6, 1, 0}, {2, 0, 0}, {2, 4, 0}, {-1, 1, 0}, {2, -1, 0},
            {Integer.MAX_VALUE, 1, 0}, {2, Integer.MIN_VALUE, 0}, {2, 1, Integer.MAX_VALUE}, {5, 3, Integer.MIN_VALUE}}) {
            if (x.chosen(other[0], other[1], other[2]) != -1) {
                wrong++;
                System.out.println("chosen answers others: " + other[0] + " " + other[1] + " " + other[2]);
            }
        }
        System.out.println(wrong == 0 ? "all answers are as due" : wrong + " answers are not as due");
        if (wrong != 0) {
            System.exit(1);
        }
    }

    private static int[] search(int n, int k) {
        for (int greatest = 1; greatest <= 60; greatest++) {
            int[] grains = new int[n];
            if (fill(grains, 0, 1, greatest, k)) {
                return grains;
            }
        }
        return null;
    }

    /** From the least up, so the first that is found is the least of those with this greatest one. */
    private static boolean fill(int[] grains, int at, int least, int greatest, int k) {
        if (at == grains.length) {
            return true;
        }
        int from = at == grains.length - 1 ? Math.max(least, greatest) : least;
        for (int g = from; g <= greatest; g++) {
            grains[at] = g;
            if (allDiffer(grains, at + 1, k) && fill(grains, at + 1, g + 1, greatest, k)) {
                return true;
            }
        }
        return false;
    }

    private static boolean allDiffer(int[] grains, int n, int k) {
        return heaps(grains, n, 0, 0, k, new boolean[60 * 3 + 1]);
    }

    private static boolean heaps(int[] grains, int n, int from, int sum, int more, boolean[] seen) {
        if (more == 0) {
            return true;
        }
        for (int i = from; i < n; i++) {
            int weight = sum + grains[i];
            if (seen[weight]) {
                return false;
            }
            seen[weight] = true;
            if (!heaps(grains, n, i, weight, more - 1, seen)) {
                return false;
            }
        }
        return true;
    }
}
