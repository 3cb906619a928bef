import java.util.List;
import java.util.function.Function;
import java.util.function.Supplier;
import java.util.function.ToLongFunction;

/** Counts the answers that are not as due, and feeds texts. */
final class Due {
    private int wrong = 0;
    private int asked = 0;
    private String sentence = "";

    /** What is asked from here on is due by these words of the document. */
    void sentence(String words) {
        sentence = words;
    }

    void is(String what, long got, long want) {
        asked++;
        if (got != want) {
            wrong++;
            System.out.println(what + " answered " + got + ", due is " + want + (sentence.isEmpty() ? "" : ": " + sentence));
        }
    }

    void is(String what, boolean got, boolean want) {
        is(what, got ? 1 : 0, want ? 1 : 0);
    }

    /** A call that answers this and leaves all as it was: what can be seen behind it is seen without it, too. */
    void leaves(String call, Supplier<HeavierByHand> made, ToLongFunction<HeavierByHand> doing, long want) {
        for (Function<HeavierByHand, List<Long>> look : Looks.PARTS) {
            HeavierByHand with = made.get();
            is(call, doing.applyAsLong(with), want);
            List<Long> seen = look.apply(with);
            List<Long> seenWithout = look.apply(made.get());
            is("what is seen behind " + call + ", how much", seen.size(), seenWithout.size());
            for (int i = 0; i < seen.size() && i < seenWithout.size(); i++) {
                is("what is seen behind " + call + ", " + i, seen.get(i), seenWithout.get(i));
            }
        }
    }

    /** Makes the tape these signs and no others. */
    static void feed(HeavierByHand x, String signs) {
        x.end(0);
        for (int from = 0; from < signs.length(); from += 20) {
            int[] five = new int[5];
            for (int i = 0; i < 20; i++) {
                int sign = from + i < signs.length() ? signs.charAt(from + i) : 0;
                five[i / 4] = five[i / 4] << 8 | sign & 255;
            }
            x.feed(five[0], five[1], five[2], five[3], five[4]);
        }
        x.end(signs.length());
    }

    static int tell(HeavierByHand x, String signs) {
        feed(x, signs);
        return x.text();
    }

    /** A text with a FAULT, read by a new object. */
    void faulty(String signs, int fault, int place) {
        HeavierByHand x = new HeavierByHand();
        is("text() of [" + signs + "]", tell(x, signs), -1);
        is("fault(0) of [" + signs + "]", x.fault(0), fault);
        is("fault(1) of [" + signs + "]", x.fault(1), place);
        is("about(5) behind [" + signs + "]", x.about(5), 0);
        is("about(9) behind [" + signs + "]", x.about(9), 0);
    }

    void good(String signs) {
        HeavierByHand x = new HeavierByHand();
        is("text() of [" + signs + "]", tell(x, signs), 0);
        is("fault(0) of [" + signs + "]", x.fault(0), 0);
        is("fault(1) of [" + signs + "]", x.fault(1), -1);
        is("about(9) behind [" + signs + "]", x.about(9), 0);
    }

    void end() {
        System.out.println(asked + " answers");
        System.out.println(wrong == 0 ? "all answers are as due" : wrong + " answers are not as due");
        if (wrong != 0) {
            System.exit(1);
        }
    }
}
