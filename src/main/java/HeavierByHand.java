/** Coins that take a grain of each hand that holds them; README.md tells how to use it. */
public final class HeavierByHand {
    public static final int NONE = -1;

    private static final int UNKNOWN = -2;
    private static final int NO_READING = -100;

    private static final int MOST_HANDS = 10;
    private static final int MOST_GRAIN = 30;
    private static final int MOST_COINS = 20;
    private static final int MOST_MINT = 500;
    private static final int MOST_TRAY = 5;
    private static final int MOST_TRAYS = 6;
    private static final int MOST_CUT = 999;
    private static final int MOST_HOUR = 999;
    private static final int MOST_WAIT = 99;
    private static final int MOST_TURNS = 99;
    private static final int MOST_MARKET = 6;
    private static final int MOST_ERROR = 9;
    private static final int FIRST_ERROR = 3;
    private static final int MOST_GIVEN = 99;
    private static final int MOST_GAIN = 999;
    private static final int MOST_GAINS = 4;
    private static final int MOST_STEPS = 40;
    private static final int MOST_SEED = 9999;
    private static final int LONGEST_ROW = 12;
    private static final int LONGEST_PURSE_ROW = 4;

    private static final int MOST_TEXTS = 4;
    private static final int MOST_BYTES = 300;
    private static final int FED_BYTES = 20;
    private static final int MOST_CLAUSES = 20;
    private static final int MOST_NUMBER = 9999;
    private static final int MOST_OPEN = 8;
    private static final int MOST_VALUE = 1000000;

    private static final int MISPLACED = 1;
    private static final int TOO_GREAT = 2;
    private static final int TOO_DEEP = 3;
    private static final int TWICE = 4;
    private static final int TOO_MANY = 5;

    // Kinds of tokens; those of one sort stand side by side, so that a range tells the sort.
    private static final int END = 0;
    private static final int BAD = 1;
    private static final int NUMBER = 2;
    private static final int WORD = 3;
    private static final int GLOVE = 4;
    private static final int GRAIN = 5;
    private static final int PAY = 6;
    private static final int WASH = 7;
    private static final int WAIT = 8;
    private static final int TO = 9;
    private static final int OR = 10;
    private static final int AND = 11;
    private static final int NOT = 12;
    private static final int HAND = 13;
    private static final int OWN = 14;
    private static final int HOUR = 15;
    private static final int MARKET = 16;
    private static final int WEIGHT = 17;
    private static final int TIMES = 18;
    private static final int FROM = 19;
    private static final int LESS = 20;
    private static final int AT_MOST = 21;
    private static final int MORE = 22;
    private static final int AT_LEAST = 23;
    private static final int ALIKE = 24;
    private static final int UNLIKE = 25;
    private static final int PLUS = 26;
    private static final int MINUS = 27;
    private static final int STAR = 28;
    private static final int SLASH = 29;
    private static final int OPEN = 30;
    private static final int CLOSE = 31;
    private static final int STOP = 32;
    // No token: the minus of one ONE, as it stands in a law's code.
    private static final int NEGATE = 33;

    // Levels of the grammar, each made of the one below it.
    private static final int EITHER = 0;
    private static final int BOTH = 1;
    private static final int ASK = 2;
    private static final int SUM = 3;
    private static final int PRODUCT = 4;
    private static final int ONE = 5;

    private static final int FEWEST_CHOSEN = 2;
    private static final int MOST_CHOSEN = 5;
    private static final int MOST_HEAP = 3;
    // CHOSEN hangs on nothing that is told, so it is written out: by n, then k, five places each. There is one for
    // every n and k; the test ChosenSearch finds all of them again.
    private static final int[] CHOSEN_GRAINS = {
        1, 2, 0, 0, 0,  1, 3, 0, 0, 0,  1, 4, 0, 0, 0,
        1, 2, 3, 0, 0,  1, 4, 6, 0, 0,  1, 7, 11, 0, 0,
        1, 2, 3, 4, 0,  1, 4, 9, 11, 0,  1, 15, 18, 23, 0,
        1, 2, 3, 4, 5,  1, 4, 10, 12, 17,  2, 11, 26, 42, 45,
    };

    private final State now;
    private final State kept;
    private final Tape tape;
    private final Reader reader;
    private final Text[] texts;
    private final Scale scale;
    private final Trays trays;
    private final Draws draws;
    // The two tables are large, and many objects are never asked for ROWS: made at the first asking.
    private RowTable allRows;
    private RowTable rowsWithout;

    public HeavierByHand() {
        now = new State();
        kept = new State();
        tape = new Tape();
        reader = new Reader();
        texts = new Text[MOST_TEXTS];
        for (int i = 0; i < MOST_TEXTS; i++) {
            texts[i] = new Text();
        }
        scale = new Scale();
        trays = new Trays();
        draws = new Draws();
    }

    public int hand(int grain) {
        if (!isWithin(grain, 1, MOST_GRAIN) || now.hands >= MOST_HANDS) {
            return NONE;
        }
        return now.addHand(grain);
    }

    public int coin(int mint, int hand) {
        if (!isWithin(mint, 0, MOST_MINT) || !now.isHand(hand) || now.coins >= MOST_COINS) {
            return NONE;
        }
        return now.addCoin(mint, hand);
    }

    public boolean rules(int market, int error) {
        if (!isWithin(market, 0, MOST_MARKET) || !isWithin(error, 0, MOST_ERROR)) {
            return false;
        }
        now.market = market;
        now.error = error;
        return true;
    }

    public int later(int n) {
        return now.letPass(n) ? now.hour : NONE;
    }

    public int feed(int a, int b, int c, int d, int e) {
        if (tape.length > MOST_BYTES - FED_BYTES) {
            return NONE;
        }
        tape.put(a);
        tape.put(b);
        tape.put(c);
        tape.put(d);
        tape.put(e);
        return tape.length;
    }

    public int end(int n) {
        if (!isWithin(n, 0, tape.length)) {
            return NONE;
        }
        tape.length = n;
        return n;
    }

    public int text() {
        int number = now.texts;
        if (number < 0 || number >= MOST_TEXTS) {
            return NONE;
        }
        Text place = texts[number];
        boolean good = reader.parse(tape);
        tape.length = 0;
        if (!good || place == null) {
            return NONE;
        }
        place.copyOf(reader.draft);
        now.texts = number + 1;
        return number;
    }

    public int fault(int what) {
        if (!reader.hasRead) {
            return NONE;
        }
        if (what == 0) {
            return reader.fault;
        }
        return what == 1 ? reader.place : NONE;
    }

    public boolean by(int text) {
        if (text != NONE && !now.isText(text)) {
            return false;
        }
        now.ruling = text;
        return true;
    }

    public int gives(int hand, int coin) {
        return now.canBePaid(coin, hand) ? scale.given(now, ruling(), hand, coin) : NONE;
    }

    public int pay(int coin, int hand) {
        if (!now.canBePaid(coin, hand)) {
            return NONE;
        }
        return now.moveCoin(coin, hand, scale.given(now, ruling(), hand, coin));
    }

    public int wash(int coin) {
        return now.isCoin(coin) ? now.cleanCoin(coin) : NONE;
    }

    public int played(int text) {
        if (!now.isText(text)) {
            return UNKNOWN;
        }
        Text script = texts[text];
        if (script == null) {
            return UNKNOWN;
        }
        for (int i = 0; i < script.clauses && i < MOST_CLAUSES; i++) {
            if (!isDone(script.deed[i], script.first[i], script.second[i])) {
                return i;
            }
        }
        return NONE;
    }

    public int undo() {
        return now.takeBack();
    }

    public int of(int coin, int what) {
        if (!now.isCoin(coin)) {
            return NONE;
        }
        switch (what) {
            case 0:
                return now.weight[coin];
            case 1:
                return now.holder[coin];
            case 2:
                return now.times[coin];
            case 3:
                return now.mint[coin];
            case 4:
                return now.tray[coin];
            case 5:
                return mustBeWashed(coin);
            default:
                return NONE;
        }
    }

    public long rows(int begin, int gain, int low, int high) {
        if (!isRowQuestion(begin, gain, low, high)) {
            return NONE;
        }
        return tableOfAll().total(begin, gain, now.error, low, high);
    }

    public int row(int begin, int gain, int low, int high, int i) {
        if (!isRowQuestion(begin, gain, low, high)) {
            return NONE;
        }
        RowTable table = tableOfAll();
        int length = table.shortest(begin, gain, now.error, low, high);
        if (i == NONE || length == NONE) {
            return length;
        }
        return isWithin(i, 0, length - 1) ? table.handOfFirst(begin, gain, now.error, length, i) : NONE;
    }

    public int among(int begin, int gain, int low, int high, boolean some) {
        if (!isRowQuestion(begin, gain, low, high)) {
            return NONE;
        }
        RowTable table = tableOfAll();
        return some
            ? table.inSome(begin, gain, now.error, low, high)
            : table.inAll(begin, gain, now.error, low, high);
    }

    public int purse(int begin, int gain) {
        if (begin == NONE) {
            now.gains = 0;
            return 0;
        }
        if (!now.isHand(begin) || !isWithin(gain, 0, MOST_GAIN) || now.gains >= MOST_GAINS) {
            return NONE;
        }
        return now.addGain(begin, gain);
    }

    public long odds(int hand, int low, int high, int what) {
        if (!now.isHand(hand) || !areLengths(low, high, LONGEST_PURSE_ROW) || !isWithin(what, 0, 1)) {
            return NONE;
        }
        RowTable all = tableOfAll();
        RowTable without = tableWithout(hand);
        long upper = 1;
        long lower = 1;
        for (int i = 0; i < now.gains && i < MOST_GAINS; i++) {
            int begin = now.purseBegin[i];
            int gain = now.purseGain[i];
            long each = all.total(begin, gain, now.error, low, high);
            upper *= each - without.total(begin, gain, now.error, low, high);
            lower *= each;
        }
        if (lower < 1) {
            return NONE;
        }
        long shared = commonDivisor(upper, lower);
        if (shared < 1) {
            return NONE;
        }
        return (what == 0 ? upper : lower) / shared;
    }

    public int told(int low, int high) {
        if (!areLengths(low, high, LONGEST_PURSE_ROW)) {
            return NONE;
        }
        RowTable table = tableOfAll();
        int hands = (1 << now.hands) - 1;
        for (int i = 0; i < now.gains && i < MOST_GAINS; i++) {
            // A gain without a ROW leaves 0 here, and so no HAND, just as it leaves no WAYS.
            hands &= table.inAll(now.purseBegin[i], now.purseGain[i], now.error, low, high);
        }
        return onlyOne(hands);
    }

    public int chosen(int n, int k, int i) {
        if (!isWithin(n, FEWEST_CHOSEN, MOST_CHOSEN) || !isWithin(k, 1, MOST_HEAP) || !isWithin(i, 0, n - 1)) {
            return NONE;
        }
        int at = ((n - FEWEST_CHOSEN) * MOST_HEAP + k - 1) * MOST_CHOSEN + i;
        if (at < 0 || at >= CHOSEN_GRAINS.length) {
            return NONE;
        }
        return CHOSEN_GRAINS[at];
    }

    public boolean tray(int coin, int tray) {
        if (!now.isCoin(coin) || !isWithin(tray, NONE, MOST_TRAY)) {
            return false;
        }
        now.tray[coin] = tray;
        return true;
    }

    public int sorted(int t, int i) {
        if (!isWithin(t, 2, MOST_TRAYS) || !isWithin(i, 0, t - 1)) {
            return NONE;
        }
        int wrong = trays.arrange(now, t);
        return i == 0 ? wrong : trays.cut[i];
    }

    public int read(int coin, int seed) {
        if (!now.isCoin(coin) || !isWithin(seed, 0, MOST_SEED)) {
            return NO_READING;
        }
        draws.start(seed);
        return now.weight[coin] - now.error + draws.draw(2 * now.error + 1);
    }

    public int market(int seed, int n) {
        if (!isWithin(seed, 0, MOST_SEED) || !isWithin(n, 1, MOST_TURNS) || now.hands < 1) {
            return NONE;
        }
        draws.start(seed);
        int payments = 0;
        for (int turn = 0; turn < n; turn++) {
            int payer = draws.draw(now.hands);
            int payee = draws.draw(now.hands);
            int coin = now.lightestOf(payer);
            // A COIN that the payee HOLDS already can't be paid, so both being one needs no test here.
            if (now.canBePaid(coin, payee)) {
                now.moveCoin(coin, payee, scale.given(now, ruling(), payee, coin));
                payments++;
            }
            now.hour = Math.min(now.hour + 1, MOST_HOUR);
        }
        return payments;
    }

    public int image() {
        kept.copyOf(now);
        return now.coins;
    }

    public int back() {
        now.copyOf(kept);
        return now.coins;
    }

    public int about(int what) {
        if (isWithin(what, 10, 19)) {
            return now.isHand(what - 10) ? now.grain[what - 10] : UNKNOWN;
        }
        if (isWithin(what, 20, 29)) {
            return now.isHand(what - 20) ? now.weightHeldBy(what - 20) : UNKNOWN;
        }
        switch (what) {
            case 0:
                return now.hands;
            case 1:
                return now.coins;
            case 2:
                return now.hour;
            case 3:
                return now.market;
            case 4:
                return now.error;
            case 5:
                return now.texts;
            case 6:
                return now.ruling;
            case 7:
                return now.steps.count;
            case 8:
                return now.gains;
            case 9:
                return tape.length;
            default:
                return UNKNOWN;
        }
    }

    private static boolean isWithin(int x, int least, int most) {
        return x >= least && x <= most;
    }

    private static boolean areLengths(int low, int high, int longest) {
        return low >= 0 && low <= high && high <= longest;
    }

    private boolean isRowQuestion(int begin, int gain, int low, int high) {
        return now.isHand(begin) && isWithin(gain, 0, MOST_GAIN) && areLengths(low, high, LONGEST_ROW);
    }

    private Text ruling() {
        return now.isText(now.ruling) ? texts[now.ruling] : null;
    }

    private boolean isDone(int deed, int first, int second) {
        switch (deed) {
            case PAY:
                return pay(first, second) != NONE;
            case WASH:
                return wash(first) != NONE;
            case WAIT:
                return now.letPass(first);
            default:
                return true;
        }
    }

    private int mustBeWashed(int coin) {
        int length = now.times[coin];
        if (length > LONGEST_ROW) {
            return NONE;
        }
        RowTable table = tableOfAll();
        int gain = now.weight[coin] - now.mint[coin];
        for (int begin = 0; begin < now.hands; begin++) {
            if (table.total(begin, gain, now.error, length, length) > 0) {
                return 0;
            }
        }
        return 1;
    }

    private static int onlyOne(int bits) {
        int found = NONE;
        for (int hand = 0; hand < MOST_HANDS; hand++) {
            if ((bits >> hand & 1) == 1) {
                if (found != NONE) {
                    return NONE;
                }
                found = hand;
            }
        }
        return found;
    }

    private RowTable tableOfAll() {
        RowTable table = allRows;
        if (table == null) {
            table = new RowTable(LONGEST_ROW);
            allRows = table;
        }
        table.suit(now, NONE);
        return table;
    }

    private RowTable tableWithout(int hand) {
        RowTable table = rowsWithout;
        if (table == null) {
            table = new RowTable(LONGEST_PURSE_ROW);
            rowsWithout = table;
        }
        table.suit(now, hand);
        return table;
    }

    private static long commonDivisor(long a, long b) {
        long x = a;
        long y = b;
        // Two steps at least halve the greater of two longs: 200 is far above what can be needed.
        for (int i = 0; i < 200 && y != 0; i++) {
            long rest = x % y;
            x = y;
            y = rest;
        }
        return x;
    }

    /** All that an image keeps. */
    private static final class State {
        final int[] grain = new int[MOST_HANDS];
        int hands;
        final int[] mint = new int[MOST_COINS];
        final int[] weight = new int[MOST_COINS];
        final int[] holder = new int[MOST_COINS];
        final int[] times = new int[MOST_COINS];
        final int[] tray = new int[MOST_COINS];
        int coins;
        int hour;
        int market;
        int error = FIRST_ERROR;
        int texts;
        int ruling = NONE;
        final Steps steps = new Steps();
        final int[] purseBegin = new int[MOST_GAINS];
        final int[] purseGain = new int[MOST_GAINS];
        int gains;

        void copyOf(State other) {
            System.arraycopy(other.grain, 0, grain, 0, MOST_HANDS);
            System.arraycopy(other.mint, 0, mint, 0, MOST_COINS);
            System.arraycopy(other.weight, 0, weight, 0, MOST_COINS);
            System.arraycopy(other.holder, 0, holder, 0, MOST_COINS);
            System.arraycopy(other.times, 0, times, 0, MOST_COINS);
            System.arraycopy(other.tray, 0, tray, 0, MOST_COINS);
            System.arraycopy(other.purseBegin, 0, purseBegin, 0, MOST_GAINS);
            System.arraycopy(other.purseGain, 0, purseGain, 0, MOST_GAINS);
            steps.copyOf(other.steps);
            hands = other.hands;
            coins = other.coins;
            hour = other.hour;
            market = other.market;
            error = other.error;
            // The TEXTS themselves need no copy: those told ahead of the image are never overwritten.
            texts = other.texts;
            ruling = other.ruling;
            gains = other.gains;
        }

        boolean isHand(int hand) {
            return hand >= 0 && hand < hands && hand < MOST_HANDS;
        }

        boolean isCoin(int coin) {
            return coin >= 0 && coin < coins && coin < MOST_COINS;
        }

        boolean isText(int text) {
            return text >= 0 && text < texts && text < MOST_TEXTS;
        }

        boolean isMarketDay() {
            return hour / 24 % 7 == market;
        }

        boolean canBePaid(int coin, int hand) {
            return isCoin(coin) && isHand(hand) && holder[coin] != hand;
        }

        int addHand(int size) {
            if (hands < 0 || hands >= MOST_HANDS) {
                return NONE;
            }
            grain[hands] = size;
            hands++;
            return hands - 1;
        }

        int addCoin(int newMint, int hand) {
            int coin = coins;
            if (coin < 0 || coin >= MOST_COINS) {
                return NONE;
            }
            mint[coin] = newMint;
            weight[coin] = newMint;
            holder[coin] = hand;
            times[coin] = 0;
            tray[coin] = NONE;
            coins++;
            return coin;
        }

        int addGain(int begin, int gain) {
            if (gains < 0 || gains >= MOST_GAINS) {
                return NONE;
            }
            purseBegin[gains] = begin;
            purseGain[gains] = gain;
            gains++;
            return gains;
        }

        boolean letPass(int hours) {
            if (!isWithin(hours, 0, MOST_WAIT) || hour + hours > MOST_HOUR) {
                return false;
            }
            hour += hours;
            return true;
        }

        int moveCoin(int coin, int hand, int gain) {
            if (!isCoin(coin)) {
                return NONE;
            }
            steps.push(coin, weight[coin], holder[coin], times[coin]);
            holder[coin] = hand;
            times[coin]++;
            weight[coin] += gain;
            return weight[coin];
        }

        int cleanCoin(int coin) {
            if (!isCoin(coin)) {
                return NONE;
            }
            steps.push(coin, weight[coin], holder[coin], times[coin]);
            int lost = weight[coin] - mint[coin];
            weight[coin] = mint[coin];
            return lost;
        }

        int takeBack() {
            int at = steps.pop();
            if (at < 0 || at >= MOST_STEPS) {
                return NONE;
            }
            int stepCoin = steps.coin[at];
            if (!isCoin(stepCoin)) {
                return NONE;
            }
            weight[stepCoin] = steps.weight[at];
            holder[stepCoin] = steps.holder[at];
            times[stepCoin] = steps.times[at];
            return stepCoin;
        }

        int lightestOf(int hand) {
            int lightest = NONE;
            for (int i = 0; i < coins && i < MOST_COINS; i++) {
                if (holder[i] == hand && (lightest == NONE || weight[i] < weight[lightest])) {
                    lightest = i;
                }
            }
            return lightest;
        }

        int weightHeldBy(int hand) {
            int sum = 0;
            for (int i = 0; i < coins && i < MOST_COINS; i++) {
                if (holder[i] == hand) {
                    sum += weight[i];
                }
            }
            return sum;
        }
    }

    /** The latest STEPS in a ring, each with what its COIN was ahead of it. */
    private static final class Steps {
        final int[] coin = new int[MOST_STEPS];
        final int[] weight = new int[MOST_STEPS];
        final int[] holder = new int[MOST_STEPS];
        final int[] times = new int[MOST_STEPS];
        int next;
        int count;

        void copyOf(Steps other) {
            System.arraycopy(other.coin, 0, coin, 0, MOST_STEPS);
            System.arraycopy(other.weight, 0, weight, 0, MOST_STEPS);
            System.arraycopy(other.holder, 0, holder, 0, MOST_STEPS);
            System.arraycopy(other.times, 0, times, 0, MOST_STEPS);
            next = other.next;
            count = other.count;
        }

        void push(int stepCoin, int itsWeight, int itsHolder, int itsTimes) {
            if (next < 0 || next >= MOST_STEPS) {
                return;
            }
            coin[next] = stepCoin;
            weight[next] = itsWeight;
            holder[next] = itsHolder;
            times[next] = itsTimes;
            next = (next + 1) % MOST_STEPS;
            count = Math.min(count + 1, MOST_STEPS);
        }

        /** The place of the latest STEP, which is no longer one; NONE without STEPS. */
        int pop() {
            if (count < 1) {
                return NONE;
            }
            count--;
            next = (next + MOST_STEPS - 1) % MOST_STEPS;
            return next;
        }
    }

    private static final class Tape {
        final int[] bytes = new int[MOST_BYTES];
        int length;

        void put(int four) {
            for (int shift = 24; shift >= 0; shift -= 8) {
                if (length >= 0 && length < MOST_BYTES) {
                    bytes[length] = four >>> shift & 255;
                    length++;
                }
            }
        }

        /** NONE outside of the tape, which is no byte. */
        int byteAt(int at) {
            return at >= 0 && at < length && at < MOST_BYTES ? bytes[at] : NONE;
        }
    }

    /** The tape cut into TOKENS; what is none is one of the kind BAD, so that it is come to in its turn. */
    private static final class Tokens {
        private final int[] kinds = new int[MOST_BYTES];
        private final int[] values = new int[MOST_BYTES];
        private final int[] places = new int[MOST_BYTES];
        private final int[] sizes = new int[MOST_BYTES];
        private int count;
        // The token that the reader has come to; behind the last one the end, at the length.
        private int at;
        private int length;
        int kind;
        int value;
        int place;

        void cut(Tape tape) {
            count = 0;
            length = tape.length;
            for (int i = 0; i < length && i < MOST_BYTES; i++) {
                int sign = tape.byteAt(i);
                if (!isBlank(sign)) {
                    take(sign, i, joins(tape.byteAt(i - 1), sign));
                }
            }
            for (int i = 0; i < count && i < MOST_BYTES; i++) {
                if (kinds[i] == WORD) {
                    kinds[i] = wordKind(tape, i);
                }
            }
            at = NONE;
            next();
        }

        void next() {
            at++;
            boolean more = at >= 0 && at < count && at < MOST_BYTES;
            kind = more ? kinds[at] : END;
            value = more ? values[at] : 0;
            place = more ? places[at] : length;
        }

        private boolean isToken(int token) {
            return token >= 0 && token < count && token < MOST_BYTES;
        }

        private static boolean isBlank(int sign) {
            return sign == 32 || sign == 10;
        }

        private static boolean isLetter(int sign) {
            return sign >= 'a' && sign <= 'z' || sign >= 'A' && sign <= 'Z';
        }

        private static boolean isDigit(int sign) {
            return sign >= '0' && sign <= '9';
        }

        private static boolean joins(int ahead, int sign) {
            return isLetter(ahead) && isLetter(sign)
                || isDigit(ahead) && isDigit(sign)
                || (ahead == '<' || ahead == '>') && sign == '=';
        }

        private void take(int sign, int where, boolean joined) {
            int token = joined ? count - 1 : count;
            if (token < 0 || token >= MOST_BYTES) {
                return;
            }
            if (joined) {
                sizes[token]++;
                lengthen(token, sign);
                return;
            }
            kinds[token] = kindOf(sign);
            values[token] = isDigit(sign) ? sign - '0' : 0;
            places[token] = where;
            sizes[token] = 1;
            count++;
        }

        private void lengthen(int token, int sign) {
            if (!isToken(token)) {
                return;
            }
            if (kinds[token] == LESS) {
                kinds[token] = AT_MOST;
            } else if (kinds[token] == MORE) {
                kinds[token] = AT_LEAST;
            } else if (kinds[token] == NUMBER) {
                // However many digits come, one above the most says enough.
                values[token] = Math.min(values[token] * 10 + sign - '0', MOST_NUMBER + 1);
            }
        }

        private static int kindOf(int sign) {
            if (isLetter(sign)) {
                return WORD;
            }
            if (isDigit(sign)) {
                return NUMBER;
            }
            switch (sign) {
                case '<':
                    return LESS;
                case '>':
                    return MORE;
                case '=':
                    return ALIKE;
                case '#':
                    return UNLIKE;
                case '+':
                    return PLUS;
                case '-':
                    return MINUS;
                case '*':
                    return STAR;
                case '/':
                    return SLASH;
                case '(':
                    return OPEN;
                case ')':
                    return CLOSE;
                case ';':
                    return STOP;
                default:
                    return BAD;
            }
        }

        private int wordKind(Tape tape, int token) {
            if (spells(tape, token, "glove")) {
                return GLOVE;
            } else if (spells(tape, token, "grain")) {
                return GRAIN;
            } else if (spells(tape, token, "pay")) {
                return PAY;
            } else if (spells(tape, token, "wash")) {
                return WASH;
            } else if (spells(tape, token, "wait")) {
                return WAIT;
            } else if (spells(tape, token, "to")) {
                return TO;
            } else if (spells(tape, token, "or")) {
                return OR;
            } else if (spells(tape, token, "and")) {
                return AND;
            } else if (spells(tape, token, "not")) {
                return NOT;
            }
            return nameKind(tape, token);
        }

        private int nameKind(Tape tape, int token) {
            if (spells(tape, token, "hand")) {
                return HAND;
            } else if (spells(tape, token, "own")) {
                return OWN;
            } else if (spells(tape, token, "hour")) {
                return HOUR;
            } else if (spells(tape, token, "market")) {
                return MARKET;
            } else if (spells(tape, token, "weight")) {
                return WEIGHT;
            } else if (spells(tape, token, "times")) {
                return TIMES;
            } else if (spells(tape, token, "from")) {
                return FROM;
            }
            return BAD;
        }

        private boolean spells(Tape tape, int token, String word) {
            if (!isToken(token) || sizes[token] != word.length()) {
                return false;
            }
            for (int i = 0; i < word.length(); i++) {
                if (tape.byteAt(places[token] + i) != word.charAt(i)) {
                    return false;
                }
            }
            return true;
        }
    }

    /** A TEXT without FAULT: its two laws as code (what is worked on ahead of what works), and its CLAUSES. */
    private static final class Text {
        // A number stands as itself, a name or a sign as its kind less than 0.
        final int[] code = new int[MOST_BYTES];
        int codes;
        int gloveFrom;
        int gloveTo;
        int grainFrom;
        int grainTo;
        final int[] deed = new int[MOST_CLAUSES];
        final int[] first = new int[MOST_CLAUSES];
        final int[] second = new int[MOST_CLAUSES];
        int clauses;

        void clear() {
            codes = 0;
            gloveFrom = 0;
            gloveTo = 0;
            grainFrom = 0;
            grainTo = 0;
            clauses = 0;
        }

        void copyOf(Text other) {
            System.arraycopy(other.code, 0, code, 0, MOST_BYTES);
            System.arraycopy(other.deed, 0, deed, 0, MOST_CLAUSES);
            System.arraycopy(other.first, 0, first, 0, MOST_CLAUSES);
            System.arraycopy(other.second, 0, second, 0, MOST_CLAUSES);
            codes = other.codes;
            gloveFrom = other.gloveFrom;
            gloveTo = other.gloveTo;
            grainFrom = other.grainFrom;
            grainTo = other.grainTo;
            clauses = other.clauses;
        }

        boolean hasGlove() {
            return gloveTo > gloveFrom;
        }

        boolean hasGrain() {
            return grainTo > grainFrom;
        }

        /** There is room always, as a code never has more items than the tape has tokens. */
        boolean put(int item) {
            if (codes < 0 || codes >= MOST_BYTES) {
                return false;
            }
            code[codes] = item;
            codes++;
            return true;
        }

        void addClause(int kind, int one, int two) {
            if (clauses >= 0 && clauses < MOST_CLAUSES) {
                deed[clauses] = kind;
                first[clauses] = one;
                second[clauses] = two;
                clauses++;
            }
        }

        void addLaw(int kind, int from) {
            if (kind == GLOVE) {
                gloveFrom = from;
                gloveTo = codes;
            } else {
                grainFrom = from;
                grainTo = codes;
            }
            addClause(kind, 0, 0);
        }
    }

    /** Makes a tape into a TEXT; every method that answers a boolean answers false behind the first FAULT. */
    private static final class Reader {
        final Text draft = new Text();
        private final Tokens tokens = new Tokens();
        boolean hasRead;
        int fault;
        int place;

        boolean parse(Tape tape) {
            tokens.cut(tape);
            draft.clear();
            hasRead = true;
            fault = 0;
            place = NONE;
            // One round more than CLAUSES may be: that one finds its FAULT.
            for (int i = 0; i <= MOST_CLAUSES && tokens.kind != END; i++) {
                if (!clause()) {
                    return false;
                }
            }
            return true;
        }

        private boolean refuse(int why) {
            fault = why;
            place = tokens.place;
            return false;
        }

        private boolean pass(int kind) {
            if (tokens.kind != kind) {
                return refuse(MISPLACED);
            }
            tokens.next();
            return true;
        }

        private boolean number(int most) {
            if (tokens.kind != NUMBER) {
                return refuse(MISPLACED);
            }
            if (tokens.value > most) {
                return refuse(TOO_GREAT);
            }
            tokens.next();
            return true;
        }

        private boolean clause() {
            int kind = tokens.kind;
            if (!isWithin(kind, GLOVE, WAIT)) {
                return refuse(MISPLACED);
            }
            if (kind == GLOVE && draft.hasGlove() || kind == GRAIN && draft.hasGrain()) {
                return refuse(TWICE);
            }
            if (draft.clauses >= MOST_CLAUSES) {
                return refuse(TOO_MANY);
            }
            tokens.next();
            boolean good = kind == GLOVE || kind == GRAIN ? law(kind) : deed(kind);
            return good && pass(STOP);
        }

        private boolean law(int kind) {
            int from = draft.codes;
            if (!level(kind == GLOVE ? EITHER : SUM, 0)) {
                return false;
            }
            draft.addLaw(kind, from);
            return true;
        }

        private boolean deed(int kind) {
            int first = tokens.value;
            if (!number(kind == WAIT ? MOST_WAIT : MOST_COINS - 1)) {
                return false;
            }
            if (kind != PAY) {
                draft.addClause(kind, first, 0);
                return true;
            }
            if (!pass(TO)) {
                return false;
            }
            int second = tokens.value;
            if (!number(MOST_HANDS - 1)) {
                return false;
            }
            draft.addClause(kind, first, second);
            return true;
        }

        /** What is open around it is never more than MOST_OPEN, which keeps the depth of these calls low. */
        private boolean level(int level, int open) {
            if (level == ASK) {
                return ask(open);
            }
            if (level >= ONE) {
                return one(open);
            }
            if (!level(level + 1, open)) {
                return false;
            }
            for (int i = 0; i < MOST_BYTES && isSignOf(level, tokens.kind); i++) {
                int sign = tokens.kind;
                tokens.next();
                if (!level(level + 1, open)) {
                    return false;
                }
                draft.put(-sign);
            }
            return true;
        }

        private static boolean isSignOf(int level, int kind) {
            switch (level) {
                case EITHER:
                    return kind == OR;
                case BOTH:
                    return kind == AND;
                case SUM:
                    return kind == PLUS || kind == MINUS;
                case PRODUCT:
                    return kind == STAR || kind == SLASH;
                default:
                    return false;
            }
        }

        private boolean ask(int open) {
            if (tokens.kind == NOT) {
                return opens(open) && ask(open + 1) && draft.put(-NOT);
            }
            if (!level(SUM, open)) {
                return false;
            }
            int sign = tokens.kind;
            if (!isWithin(sign, LESS, UNLIKE)) {
                return refuse(MISPLACED);
            }
            tokens.next();
            return level(SUM, open) && draft.put(-sign);
        }

        private boolean one(int open) {
            int kind = tokens.kind;
            if (kind == NUMBER) {
                int value = tokens.value;
                return number(MOST_NUMBER) && draft.put(value);
            }
            if (isWithin(kind, HAND, FROM)) {
                tokens.next();
                return draft.put(-kind);
            }
            if (kind == OPEN) {
                return opens(open) && level(SUM, open + 1) && pass(CLOSE);
            }
            if (kind == MINUS) {
                return opens(open) && one(open + 1) && draft.put(-NEGATE);
            }
            return refuse(MISPLACED);
        }

        /** Goes into one more of what can be open around one another, if it may. */
        private boolean opens(int open) {
            if (open >= MOST_OPEN) {
                return refuse(TOO_DEEP);
            }
            tokens.next();
            return true;
        }
    }

    /** What a HAND GIVES: works out a law's code on a stack. */
    private static final class Scale {
        // Three wait at most outside of brackets, two for each of what is open, and one on top.
        private static final int STACK = 32;

        private final int[] stack = new int[STACK];
        private int top;

        int given(State state, Text law, int hand, int coin) {
            if (!state.isHand(hand) || !state.isCoin(coin)) {
                return 0;
            }
            if (law == null) {
                return state.grain[hand];
            }
            if (law.hasGlove() && worth(law, law.gloveFrom, law.gloveTo, state, hand, coin) != 0) {
                return 0;
            }
            if (!law.hasGrain()) {
                return state.grain[hand];
            }
            int sum = worth(law, law.grainFrom, law.grainTo, state, hand, coin);
            return Math.max(0, Math.min(sum, MOST_GIVEN));
        }

        private int worth(Text law, int from, int to, State state, int hand, int coin) {
            top = 0;
            for (int i = Math.max(from, 0); i < to && i < MOST_BYTES; i++) {
                int item = law.code[i];
                if (item >= 0) {
                    push(item);
                } else if (isWithin(-item, HAND, FROM)) {
                    push(named(-item, state, hand, coin));
                } else {
                    work(-item);
                }
            }
            return pop();
        }

        private void push(long value) {
            if (top >= 0 && top < STACK) {
                stack[top] = (int) Math.max(-MOST_VALUE, Math.min(value, MOST_VALUE));
                top++;
            }
        }

        private int pop() {
            if (top < 1 || top > STACK) {
                return 0;
            }
            top--;
            return stack[top];
        }

        private static int named(int name, State state, int hand, int coin) {
            if (!state.isHand(hand) || !state.isCoin(coin)) {
                return 0;
            }
            switch (name) {
                case HAND:
                    return hand;
                case OWN:
                    return state.grain[hand];
                case HOUR:
                    return state.hour % 24;
                case MARKET:
                    return state.isMarketDay() ? 1 : 0;
                case WEIGHT:
                    return state.weight[coin];
                case TIMES:
                    return state.times[coin];
                case FROM:
                    return state.holder[coin];
                default:
                    return 0;
            }
        }

        private void work(int sign) {
            long right = pop();
            if (sign == NEGATE) {
                push(-right);
                return;
            }
            if (sign == NOT) {
                push(right == 0 ? 1 : 0);
                return;
            }
            long left = pop();
            if (isWithin(sign, PLUS, SLASH)) {
                push(reckoned(sign, left, right));
            } else {
                push(isSo(sign, left, right) ? 1 : 0);
            }
        }

        private static long reckoned(int sign, long left, long right) {
            switch (sign) {
                case PLUS:
                    return left + right;
                case MINUS:
                    return left - right;
                case STAR:
                    return left * right;
                default:
                    return right == 0 ? 0 : left / right;
            }
        }

        private static boolean isSo(int sign, long left, long right) {
            switch (sign) {
                case OR:
                    return left != 0 || right != 0;
                case AND:
                    return left != 0 && right != 0;
                case LESS:
                    return left < right;
                case AT_MOST:
                    return left <= right;
                case MORE:
                    return left > right;
                case AT_LEAST:
                    return left >= right;
                case ALIKE:
                    return left == right;
                default:
                    return left != right;
            }
        }
    }

    /**
     * ROWS by how many HANDS they have, their first HAND and their sum. It hangs on the GRAINS alone, so it stays
     * from call to call, and grows by length as it is asked.
     */
    private static final class RowTable {
        private static final int EACH = (1 << MOST_HANDS) - 1;

        private final int longest;
        private final long[] counts;
        // HANDS that are missing in some of the ROWS in the low bits, HANDS that are in some of them above: both
        // of several places together are the bits of any, and 0 is for no ROWS.
        private final int[] marks;
        private final int[] grain = new int[MOST_HANDS];
        private int hands;
        private int left;
        private int built;

        /** For ROWS of up to so many HANDS, LONGEST_ROW at most. */
        RowTable(int most) {
            longest = Math.max(1, Math.min(most, LONGEST_ROW));
            counts = new long[start(longest + 1)];
            marks = new int[start(longest + 1)];
            left = NONE;
        }

        /** Takes the GRAINS, one HAND left out (NONE: none); ROWS of other GRAINS are forgotten. */
        void suit(State state, int leftOut) {
            boolean same = hands == state.hands && left == leftOut;
            for (int i = 0; i < hands && i < MOST_HANDS && same; i++) {
                same = grain[i] == state.grain[i];
            }
            if (same) {
                return;
            }
            System.arraycopy(state.grain, 0, grain, 0, MOST_HANDS);
            hands = Math.min(state.hands, MOST_HANDS);
            left = leftOut;
            built = 0;
        }

        long total(int begin, int gain, int error, int low, int high) {
            build(high);
            long sum = 0;
            for (int length = low; length <= high && length <= longest; length++) {
                sum += ofLength(begin, gain, error, length);
            }
            return sum;
        }

        int shortest(int begin, int gain, int error, int low, int high) {
            build(high);
            for (int length = low; length <= high && length <= longest; length++) {
                if (ofLength(begin, gain, error, length) > 0) {
                    return length;
                }
            }
            return NONE;
        }

        /** The i-th HAND of the first ROW of this length, of which there must be one. */
        int handOfFirst(int begin, int gain, int error, int length, int i) {
            build(length);
            int ahead = begin;
            int rest = gain;
            for (int at = 0; at <= i && at < length; at++) {
                ahead = lowestFirst(ahead, rest, error, length - at);
                if (ahead < 0 || ahead >= MOST_HANDS) {
                    return NONE;
                }
                rest -= grain[ahead];
            }
            return ahead;
        }

        int inAll(int begin, int gain, int error, int low, int high) {
            int bits = marksOf(begin, gain, error, low, high);
            return bits == 0 ? 0 : ~bits & EACH;
        }

        int inSome(int begin, int gain, int error, int low, int high) {
            return marksOf(begin, gain, error, low, high) >> MOST_HANDS & EACH;
        }

        private int marksOf(int begin, int gain, int error, int low, int high) {
            build(high);
            int bits = low == 0 && isNear(gain, error) ? EACH : 0;
            for (int length = Math.max(low, 1); length <= high && length <= longest; length++) {
                int most = Math.min(gain + error, MOST_GRAIN * length);
                for (int weight = Math.max(gain - error, 0); weight <= most; weight++) {
                    bits |= marksAt(begin, length, weight);
                }
            }
            return bits;
        }

        private int marksAt(int begin, int length, int weight) {
            int bits = 0;
            for (int first = 0; first < hands; first++) {
                int at = cell(length, first, weight);
                if (first != begin && at >= 0 && at < marks.length) {
                    bits |= marks[at];
                }
            }
            return bits;
        }

        /** Is the ROW of no HANDS one for a gain. */
        private static boolean isNear(int gain, int error) {
            return gain >= -error && gain <= error;
        }

        private long ofLength(int begin, int gain, int error, int length) {
            if (length == 0) {
                return isNear(gain, error) ? 1 : 0;
            }
            long sum = 0;
            for (int first = 0; first < hands; first++) {
                if (first != begin) {
                    sum += startingWith(first, gain, error, length);
                }
            }
            return sum;
        }

        private long startingWith(int first, int gain, int error, int length) {
            long sum = 0;
            int most = Math.min(gain + error, MOST_GRAIN * length);
            for (int weight = Math.max(gain - error, 0); weight <= most; weight++) {
                int at = cell(length, first, weight);
                sum += at >= 0 && at < counts.length ? counts[at] : 0;
            }
            return sum;
        }

        private int lowestFirst(int ahead, int gain, int error, int length) {
            for (int first = 0; first < hands; first++) {
                if (first != ahead && startingWith(first, gain, error, length) > 0) {
                    return first;
                }
            }
            return NONE;
        }

        private void build(int most) {
            for (int length = built + 1; length <= most && length <= longest; length++) {
                clear(length);
                if (length == 1) {
                    buildSingle();
                }
                for (int rest = 0; rest <= MOST_GRAIN * (length - 1); rest++) {
                    lengthen(length, rest);
                }
                built = length;
            }
        }

        private void clear(int length) {
            int to = Math.min(start(length + 1), Math.min(counts.length, marks.length));
            for (int i = Math.max(start(length), 0); i < to; i++) {
                counts[i] = 0;
                marks[i] = 0;
            }
        }

        private void buildSingle() {
            for (int first = 0; first < hands && first < MOST_HANDS; first++) {
                if (first != left) {
                    put(1, first, grain[first], 1, EACH);
                }
            }
        }

        /** Sets a first HAND ahead of all ROWS of one HAND less and of this sum, but for those that begin with it. */
        private void lengthen(int length, int rest) {
            long all = 0;
            int once = 0;
            int twice = 0;
            for (int next = 0; next < hands; next++) {
                int at = cell(length - 1, next, rest);
                if (at >= 0 && at < counts.length && at < marks.length) {
                    all += counts[at];
                    twice |= once & marks[at];
                    once |= marks[at];
                }
            }
            for (int first = 0; first < hands && first < MOST_HANDS && all > 0; first++) {
                int at = cell(length - 1, first, rest);
                if (first != left && at >= 0 && at < counts.length && at < marks.length) {
                    put(length, first, rest + grain[first], all - counts[at], twice | once & ~marks[at]);
                }
            }
        }

        private void put(int length, int first, int weight, long count, int bits) {
            int at = cell(length, first, weight);
            if (count > 0 && at >= 0 && at < counts.length && at < marks.length) {
                counts[at] = count;
                marks[at] = bits & ~(1 << first) | 1 << first + MOST_HANDS;
            }
        }

        /** Where the ROWS of a length begin: each length has a place for every sum that it can reach. */
        private static int start(int length) {
            return MOST_HANDS * (length - 1) * (MOST_GRAIN / 2 * length + 1);
        }

        private int cell(int length, int first, int weight) {
            int most = MOST_GRAIN * length;
            if (length < 1 || length > longest || first < 0 || first >= MOST_HANDS || weight < 0 || weight > most) {
                return NONE;
            }
            return start(length) + first * (most + 1) + weight;
        }
    }

    /**
     * SORTED. A CUT is worth moving only to 0 and to just above a WEIGHT (its EDGES); between two EDGES lie COINS
     * that no CUT parts. From the last EDGE to the first, the least WRONG by how many CUTS are used below it.
     */
    private static final class Trays {
        private static final int MOST_EDGES = MOST_COINS + 1;
        // Above every count of COINS: the CUTS can't all be placed.
        private static final int NEVER = 1000;

        final int[] cut = new int[MOST_TRAYS];
        private final int[] edge = new int[MOST_EDGES];
        private int edges;
        private final int[] wrong = new int[MOST_EDGES * MOST_TRAYS];
        private final int[] least = new int[(MOST_EDGES + 1) * MOST_TRAYS];

        /** The least WRONG; the CUTS are in cut from 1 on. With t from 2 to MOST_TRAYS. */
        int arrange(State state, int t) {
            findEdges(state);
            countWrong(state, t);
            findLeast(t);
            placeCuts(t);
            return least[0];
        }

        private void findEdges(State state) {
            edge[0] = 0;
            edges = 1;
            for (int i = 0; i < state.coins && i < MOST_COINS; i++) {
                // Above the greatest CUT nothing parts any more.
                if (state.tray[i] != NONE && state.weight[i] < MOST_CUT) {
                    addEdge(state.weight[i] + 1);
                }
            }
        }

        private void addEdge(int value) {
            int at = edgeBelow(value - 1) + 1;
            if (edges >= MOST_EDGES || at < 0 || at < edges && edge[at] == value) {
                return;
            }
            for (int i = edges; i > at; i--) {
                edge[i] = edge[i - 1];
            }
            edge[at] = value;
            edges++;
        }

        /** The last EDGE that is not above a WEIGHT. */
        private int edgeBelow(int weight) {
            int last = 0;
            for (int i = 0; i < edges && i < MOST_EDGES; i++) {
                if (edge[i] <= weight) {
                    last = i;
                }
            }
            return last;
        }

        private void countWrong(State state, int t) {
            for (int i = 0; i < wrong.length; i++) {
                wrong[i] = 0;
            }
            for (int i = 0; i < state.coins && i < MOST_COINS; i++) {
                int from = edgeBelow(state.weight[i]) * MOST_TRAYS;
                for (int tray = 0; tray < t && tray < MOST_TRAYS; tray++) {
                    if (state.tray[i] != NONE && state.tray[i] != tray && from + tray < wrong.length) {
                        wrong[from + tray]++;
                    }
                }
            }
        }

        private void findLeast(int t) {
            for (int used = 0; used < t && used < MOST_TRAYS; used++) {
                setLeast(edges, used, used == t - 1 ? 0 : NEVER);
            }
            for (int at = edges - 1; at >= 0; at--) {
                for (int used = 0; used < t; used++) {
                    int best = NEVER;
                    for (int then = used; then < t; then++) {
                        best = Math.min(best, wrongBy(at, then));
                    }
                    setLeast(at, used, best);
                }
            }
        }

        /** The least WRONG from an EDGE on, if so many CUTS are not above it. */
        private int wrongBy(int at, int cuts) {
            int here = at * MOST_TRAYS + cuts;
            int behind = here + MOST_TRAYS;
            if (here < 0 || here >= wrong.length || behind >= least.length) {
                return NEVER;
            }
            return Math.min(wrong[here] + least[behind], NEVER);
        }

        private void setLeast(int at, int used, int value) {
            int place = at * MOST_TRAYS + used;
            if (place >= 0 && place < least.length) {
                least[place] = value;
            }
        }

        /** As many CUTS as may be at each EDGE, from the first: so c1 is least, then c2. */
        private void placeCuts(int t) {
            int used = 0;
            for (int at = 0; at < edges && at < MOST_EDGES; at++) {
                int then = mostCuts(at, used, t);
                for (int i = used + 1; i <= then && i < MOST_TRAYS; i++) {
                    cut[i] = edge[at];
                }
                used = then;
            }
        }

        private int mostCuts(int at, int used, int t) {
            int best = used;
            for (int then = used + 1; then < t; then++) {
                if (wrongBy(at, then) <= wrongBy(at, best)) {
                    best = then;
                }
            }
            return best;
        }
    }

    private static final class Draws {
        private int x;

        void start(int seed) {
            x = seed * 7 + 2;
        }

        int draw(int m) {
            if (m < 1) {
                return 0;
            }
            int drawn = x % m;
            x = (x * 227 + 59) % 30137;
            return drawn;
        }
    }
}
