import java.util.ArrayList;
import java.util.List;
import java.util.function.Function;

/** All that can be seen of an object, in parts, so that each part and what made the object stay within 512 calls. */
final class Looks {
    static final List<Function<HeavierByHand, List<Long>>> PARTS =
        List.of(Looks::state, Looks::gifts, Looks::questions, Looks::tape, Looks::texts, Looks::steps, Looks::image);

    private Looks() {
    }

    private static void add(List<Long> seen, long answer) {
        seen.add(answer);
    }

    private static void addState(List<Long> seen, HeavierByHand x) {
        for (int what = -1; what <= 30; what++) {
            add(seen, x.about(what));
        }
        for (int coin = 0; coin < 20; coin++) {
            for (int what = 0; what <= 5; what++) {
                add(seen, x.of(coin, what));
            }
        }
        add(seen, x.fault(0));
        add(seen, x.fault(1));
    }

    private static List<Long> state(HeavierByHand x) {
        List<Long> seen = new ArrayList<>();
        addState(seen, x);
        return seen;
    }

    private static List<Long> gifts(HeavierByHand x) {
        List<Long> seen = new ArrayList<>();
        for (int hand = 0; hand < 10; hand++) {
            for (int coin = 0; coin < 20; coin++) {
                add(seen, x.gives(hand, coin));
            }
        }
        return seen;
    }

    private static List<Long> questions(HeavierByHand x) {
        List<Long> seen = new ArrayList<>();
        for (int begin = 0; begin < 3; begin++) {
            add(seen, x.rows(begin, 40, 0, 12));
            add(seen, x.row(begin, 40, 0, 12, -1));
            add(seen, x.row(begin, 40, 0, 12, 0));
            add(seen, x.among(begin, 24, 1, 3, false));
            add(seen, x.among(begin, 24, 1, 3, true));
        }
        for (int hand = 0; hand < 10; hand++) {
            add(seen, x.odds(hand, 0, 4, 0));
            add(seen, x.odds(hand, 0, 4, 1));
        }
        add(seen, x.told(0, 4));
        add(seen, x.told(1, 1));
        for (int t = 2; t <= 6; t++) {
            for (int i = 0; i < t; i++) {
                add(seen, x.sorted(t, i));
            }
        }
        for (int coin = 0; coin < 20; coin++) {
            add(seen, x.read(coin, 77 * coin));
        }
        return seen;
    }

    /** The tape as it is, then whatever comes behind it. */
    private static List<Long> tape(HeavierByHand x) {
        List<Long> seen = new ArrayList<>();
        add(seen, x.feed(0x0a776169, 0x7420373b, 0x20202020, 0x20202020, 0x20202020));
        add(seen, x.text());
        add(seen, x.fault(0));
        add(seen, x.fault(1));
        add(seen, x.about(5));
        add(seen, x.about(9));
        add(seen, x.played(x.about(5) - 1));
        addState(seen, x);
        return seen;
    }

    private static List<Long> texts(HeavierByHand x) {
        List<Long> seen = new ArrayList<>();
        for (int text = -1; text <= 4; text++) {
            add(seen, x.by(text) ? 1 : 0);
            add(seen, x.gives(0, 1));
            add(seen, x.gives(1, 0));
            add(seen, x.gives(2, 0));
        }
        for (int text = 0; text < 4; text++) {
            add(seen, x.played(text));
        }
        add(seen, x.market(11, 20));
        addState(seen, x);
        return seen;
    }

    private static List<Long> steps(HeavierByHand x) {
        List<Long> seen = new ArrayList<>();
        for (int i = 0; i < 41; i++) {
            int coin = x.undo();
            add(seen, coin);
            add(seen, x.of(coin, 0));
            add(seen, x.of(coin, 1));
            add(seen, x.of(coin, 2));
        }
        addState(seen, x);
        return seen;
    }

    private static List<Long> image(HeavierByHand x) {
        List<Long> seen = new ArrayList<>();
        add(seen, x.back());
        addState(seen, x);
        for (int text = 0; text < 4; text++) {
            add(seen, x.played(text));
        }
        for (int i = 0; i < 41; i++) {
            add(seen, x.undo());
        }
        return seen;
    }
}
