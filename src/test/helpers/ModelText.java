import java.util.ArrayList;
import java.util.List;
import java.util.Map;
import java.util.regex.Matcher;
import java.util.regex.Pattern;

/** A TEXT as the grammar says it: a function for each of its rules, a tree of functions for each law. */
final class ModelText {
    static final class Fault extends RuntimeException {
        final int why;
        final int place;

        Fault(int why, int place) {
            this.why = why;
            this.place = place;
        }
    }

    interface Tree {
        long value(long[] names);
    }

    private static final Pattern TOKEN =
        Pattern.compile("[ \\n]*(?:([a-zA-Z]+)|([0-9]+)|(<=|>=|[<>=#+\\-*/();])|([^ \\n]))", Pattern.DOTALL);
    private static final Map<String, Integer> NAMES =
        Map.of("hand", 0, "own", 1, "hour", 2, "market", 3, "weight", 4, "times", 5, "from", 6);

    Tree glove;
    Tree grain;
    final List<int[]> clauses = new ArrayList<>();

    private final List<String> tokens = new ArrayList<>();
    private final List<Integer> places = new ArrayList<>();
    private int at = 0;
    private int open = 0;

    ModelText(String all) {
        Matcher m = TOKEN.matcher(all);
        int from = 0;
        while (m.find(from) && m.start() == from) {
            for (int g = 1; g <= 4; g++) {
                if (m.group(g) != null) {
                    tokens.add(g == 4 ? "?" + m.group(g) : m.group(g));
                    places.add(m.start(g));
                }
            }
            from = m.end();
        }
        tokens.add("");
        places.add(all.length());
        while (!look().isEmpty()) {
            clause();
        }
    }

    private String look() {
        return tokens.get(at);
    }

    private Fault no(int why) {
        return new Fault(why, places.get(at));
    }

    private void need(String token) {
        if (!look().equals(token)) {
            throw no(1);
        }
        at++;
    }

    private int number(int most) {
        if (!look().matches("[0-9]+")) {
            throw no(1);
        }
        if (new java.math.BigInteger(look()).compareTo(java.math.BigInteger.valueOf(most)) > 0) {
            throw no(2);
        }
        return Integer.parseInt(tokens.get(at++));
    }

    private void clause() {
        String word = look();
        if (!List.of("glove", "grain", "pay", "wash", "wait").contains(word)) {
            throw no(1);
        }
        if (word.equals("glove") && glove != null || word.equals("grain") && grain != null) {
            throw no(4);
        }
        if (clauses.size() == 20) {
            throw no(5);
        }
        at++;
        int[] deed = {0, 0, 0};
        switch (word) {
            case "glove" -> glove = either();
            case "grain" -> grain = sum();
            case "pay" -> {
                deed[0] = 'p';
                deed[1] = number(19);
                need("to");
                deed[2] = number(9);
            }
            case "wash" -> {
                deed[0] = 'w';
                deed[1] = number(19);
            }
            default -> {
                deed[0] = 't';
                deed[1] = number(99);
            }
        }
        need(";");
        clauses.add(deed);
    }

    private Tree either() {
        Tree left = both();
        while (look().equals("or")) {
            at++;
            Tree l = left;
            Tree r = both();
            left = n -> Math.max(l.value(n), r.value(n));
        }
        return left;
    }

    private Tree both() {
        Tree left = ask();
        while (look().equals("and")) {
            at++;
            Tree l = left;
            Tree r = ask();
            left = n -> Math.min(l.value(n), r.value(n));
        }
        return left;
    }

    private void goIn() {
        if (open == 8) {
            throw no(3);
        }
        open++;
        at++;
    }

    private Tree ask() {
        if (look().equals("not")) {
            goIn();
            Tree in = ask();
            open--;
            return n -> 1 - in.value(n);
        }
        Tree l = sum();
        String sign = look();
        if (!List.of("<", "<=", ">", ">=", "=", "#").contains(sign)) {
            throw no(1);
        }
        at++;
        Tree r = sum();
        return n -> {
            int c = Long.compare(l.value(n), r.value(n));
            boolean so = switch (sign) {
                case "<" -> c < 0;
                case "<=" -> c <= 0;
                case ">" -> c > 0;
                case ">=" -> c >= 0;
                case "=" -> c == 0;
                default -> c != 0;
            };
            return so ? 1 : 0;
        };
    }

    private static long cap(long v) {
        return v > 1000000 ? 1000000 : v < -1000000 ? -1000000 : v;
    }

    private Tree sum() {
        Tree left = product();
        while (look().equals("+") || look().equals("-")) {
            boolean plus = tokens.get(at++).equals("+");
            Tree l = left;
            Tree r = product();
            left = n -> cap(plus ? l.value(n) + r.value(n) : l.value(n) - r.value(n));
        }
        return left;
    }

    private Tree product() {
        Tree left = one();
        while (look().equals("*") || look().equals("/")) {
            boolean by = tokens.get(at++).equals("*");
            Tree l = left;
            Tree r = one();
            left = n -> {
                long a = l.value(n);
                long b = r.value(n);
                return cap(by ? a * b : b == 0 ? 0 : a / b);
            };
        }
        return left;
    }

    private Tree one() {
        String t = look();
        if (t.equals("(")) {
            goIn();
            Tree in = sum();
            need(")");
            open--;
            return in;
        }
        if (t.equals("-")) {
            goIn();
            Tree in = one();
            open--;
            return n -> -in.value(n);
        }
        if (NAMES.containsKey(t)) {
            at++;
            int name = NAMES.get(t);
            return n -> cap(n[name]);
        }
        long v = number(9999);
        return n -> v;
    }
}
