import java.util.ArrayList;
import java.util.List;
import java.util.Random;

/** Drawn texts: by the grammar, and by the grammar with a few tokens or bytes put wrong. */
final class Texts {
    private static final String[] TOKENS = {"glove", "grain", "pay", "wash", "wait", "to", "or", "and", "not", "hand",
        "own", "hour", "market", "weight", "times", "from", "<", "<=", ">", ">=", "=", "#", "+", "-", "*", "/", "(",
        ")", ";", "0", "1", "9", "10", "19", "20", "99", "100", "9999", "10000", "00000000009", "123456789012", "Glove",
        "x", "\t", "!", "\u00e9", "\0", "paid", "&"};

    private final Random r;
    private final List<String> out = new ArrayList<>();

    Texts(Random r) {
        this.r = r;
    }

    String any() {
        int clauses = r.nextInt(12) == 0 ? 19 + r.nextInt(4) : r.nextInt(7);
        boolean glove = false;
        boolean grain = false;
        for (int i = 0; i < clauses; i++) {
            int kind = clauses > 15 ? 2 + r.nextInt(20) : r.nextInt(6);
            if (kind == 0 && (!glove || r.nextInt(8) == 0)) {
                glove = true;
                out.add("glove");
                either();
            } else if (kind == 1 && (!grain || r.nextInt(8) == 0)) {
                grain = true;
                out.add("grain");
                sum(r.nextInt(3));
            } else if (kind == 2) {
                out.add("wash");
                out.add("" + r.nextInt(r.nextInt(10) == 0 ? 21 : 4));
            } else if (kind == 3) {
                out.add("wait");
                out.add("" + r.nextInt(r.nextInt(4) == 0 ? 101 : 9));
            } else {
                out.add("pay");
                out.add("" + r.nextInt(r.nextInt(10) == 0 ? 21 : 4));
                out.add("to");
                out.add("" + r.nextInt(r.nextInt(10) == 0 ? 11 : 4));
            }
            out.add(";");
        }
        spoil();
        return join();
    }

    private void spoil() {
        int many = r.nextInt(3) == 0 ? 1 + r.nextInt(3) : 0;
        for (int i = 0; i < many && !out.isEmpty(); i++) {
            int at = r.nextInt(out.size());
            String token = TOKENS[r.nextInt(TOKENS.length)];
            switch (r.nextInt(4)) {
                case 0 -> out.remove(at);
                case 1 -> out.set(at, token);
                case 2 -> out.add(at, token);
                default -> {
                    String same = List.of("(", "not", "-").get(r.nextInt(3));
                    int deep = 1 + r.nextInt(10);
                    for (int j = 0; j < deep; j++) {
                        out.add(at, same);
                    }
                }
            }
        }
    }

    /** Blanks only where two tokens would be one, and now and then elsewhere. */
    private String join() {
        StringBuilder b = new StringBuilder();
        boolean tight = r.nextBoolean();
        for (String t : out) {
            boolean glued = b.length() > 0 && isWordy(b.charAt(b.length() - 1)) && isWordy(t.charAt(0));
            if (b.length() > 0 && (glued && r.nextInt(50) != 0 || !tight || r.nextInt(9) == 0)) {
                b.append(r.nextInt(5) == 0 ? "\n" : " ");
            }
            b.append(t);
        }
        if (r.nextInt(6) == 0) {
            b.append("  ");
        }
        return b.length() > 300 ? b.substring(0, 300) : b.toString();
    }

    private static boolean isWordy(char c) {
        return c >= 'a' && c <= 'z' || c >= 'A' && c <= 'Z' || c >= '0' && c <= '9';
    }

    private void either() {
        both();
        while (r.nextInt(4) == 0) {
            out.add("or");
            both();
        }
    }

    private void both() {
        ask();
        while (r.nextInt(4) == 0) {
            out.add("and");
            ask();
        }
    }

    private void ask() {
        while (r.nextInt(4) == 0) {
            out.add("not");
        }
        sum(1);
        out.add(List.of("<", "<=", ">", ">=", "=", "#").get(r.nextInt(6)));
        sum(1);
    }

    private void sum(int deep) {
        product(deep);
        while (r.nextInt(3) == 0) {
            out.add(r.nextBoolean() ? "+" : "-");
            product(deep);
        }
    }

    private void product(int deep) {
        one(deep);
        while (r.nextInt(3) == 0) {
            out.add(r.nextBoolean() ? "*" : "/");
            one(deep);
        }
    }

    private void one(int deep) {
        int kind = r.nextInt(10);
        if (kind == 0 && deep > 0) {
            out.add("(");
            sum(deep - 1);
            out.add(")");
        } else if (kind == 1) {
            out.add("-");
            one(deep);
        } else if (kind < 6) {
            out.add(TOKENS[9 + r.nextInt(7)]);
        } else {
            out.add("" + (r.nextInt(8) == 0 ? r.nextInt(10001) : r.nextInt(12)));
        }
    }
}
