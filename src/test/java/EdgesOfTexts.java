/** The edges that part II of the terms names for the tape, TOKENS, CLAUSES and FAULTS, and promises 6 to 10. */
public final class EdgesOfTexts {
    private static final int LEAST = Integer.MIN_VALUE;
    private static final int GREATEST = Integer.MAX_VALUE;
    private static final int BLANKS = 0x20202020;
    private static final Due due = new Due();

    public static void main(String[] args) {
        threeHundredBytes();
        fed();
        fedBeyond();
        ended();
        endedBeyond();
        told();
        toldWithAFault();
        toldBehindLongOnes();
        fourTexts();
        faultAheadOfAny();
        faultOfOthers();
        faultOfTheLatest();
        by();
        blanks();
        letters();
        digits();
        signs();
        twentyClauses();
        clauseForms();
        clausesCutShort();
        eithers();
        boths();
        asks();
        sums();
        products();
        ones();
        cantStand();
        ends();
        theFirstFault();
        theLeastFault();
        tooGreat();
        tooDeep();
        openAroundOneAnother();
        twice();
        tooMany();
        due.end();
    }

    private static void threeHundredBytes() {
        due.sentence("TEXTS 0 .. 3: of up to 300 bytes.");
        due.good("");
        due.good("grain 1;" + " ".repeat(291));
        due.good("grain 1;" + " ".repeat(292));
        String sum = "grain 1" + "+1".repeat(146);
        due.is("bytes", (sum + ";").length(), 300);
        due.good(sum + ";");
        due.is("gives by 300 bytes", Worlds.ruled(sum + ";").gives(1, 0), 99);
        due.is("gives by 300 bytes", Worlds.ruled("grain 240" + "-1".repeat(145) + ";").gives(1, 0), 95);
    }

    private static void fed() {
        due.sentence("Twenty bytes come behind the tape, the highest of a first: how many it has.");
        HeavierByHand x = new HeavierByHand();
        // grain 5; wait 1;wash . with a byte at each end of the five ints that is told by its place.
        due.is("feed", x.feed(0x67726169, 0x6e20353b, 0x77616974, 0x20313b77, 0x61736820), 20);
        due.is("feed", x.feed(0x37203bff, BLANKS, BLANKS, BLANKS, 0x202020fe), 40);
        due.is("text()", x.text(), -1);
        due.is("fault(1), of the first ff", x.fault(1), 23);
        for (int at = 0; at < 20; at++) {
            int[] five = {BLANKS, BLANKS, BLANKS, BLANKS, BLANKS};
            int shift = 24 - at % 4 * 8;
            five[at / 4] = five[at / 4] & ~(255 << shift) | 255 << shift;
            due.is("feed", x.feed(five[0], five[1], five[2], five[3], five[4]), 20);
            due.is("text()", x.text(), -1);
            due.is("fault(1)", x.fault(1), at);
        }
        for (int i = 1; i <= 15; i++) {
            due.is("feed " + i, x.feed(BLANKS, BLANKS, BLANKS, BLANKS, BLANKS), 20 * i);
        }
    }

    private static void fedBeyond() {
        due.sentence("NONE, and none come, if there would be more than 300.");
        HeavierByHand x = new HeavierByHand();
        Due.feed(x, " ".repeat(280));
        due.is("feed at 280", x.feed(BLANKS, BLANKS, BLANKS, BLANKS, BLANKS), 300);
        due.is("feed at 300", x.feed(-1, -1, -1, -1, -1), -1);
        due.is("about(9)", x.about(9), 300);
        x.end(281);
        due.is("feed at 281", x.feed(-1, -1, -1, -1, -1), -1);
        due.is("about(9)", x.about(9), 281);
        due.is("text(), none came", x.text(), 0);
        due.is("feed behind it", x.feed(BLANKS, BLANKS, BLANKS, BLANKS, BLANKS), 20);
    }

    private static void ended() {
        due.sentence("The tape has its first n bytes alone: n.");
        HeavierByHand x = new HeavierByHand();
        due.is("end(0) of none", x.end(0), 0);
        Due.feed(x, "wait 1;!");
        due.is("end(8) of 8", x.end(8), 8);
        due.is("about(9)", x.about(9), 8);
        due.is("end(7) of 8", x.end(7), 7);
        due.is("end(8) of 7", x.end(8), -1);
        due.is("text()", x.text(), 0);
        Due.feed(x, "!");
        due.is("end(0) of 1", x.end(0), 0);
        due.is("text()", x.text(), 1);
        Due.feed(x, "wait 1;!!!");
        x.end(7);
        // What was cut off does not come back by what is fed behind it.
        x.feed(BLANKS, BLANKS, BLANKS, BLANKS, BLANKS);
        due.is("about(9)", x.about(9), 27);
        due.is("text()", x.text(), 2);
    }

    private static void endedBeyond() {
        due.sentence("NONE, and nothing is done, if it has not so many, or n is below 0.");
        HeavierByHand x = new HeavierByHand();
        due.is("end(1) of none", x.end(1), -1);
        Due.feed(x, "wait 1;");
        for (int n : new int[] {-1, 8, 300, 301, LEAST, GREATEST}) {
            due.is("end(" + n + ")", x.end(n), -1);
            due.is("about(9)", x.about(9), 7);
        }
        Due.feed(x, " ".repeat(300));
        due.is("end(301)", x.end(301), -1);
        due.is("end(300)", x.end(300), 300);
        due.is("end(-1)", x.end(-1), -1);
        due.is("about(9)", x.about(9), 300);
    }

    private static void told() {
        due.sentence("The tape (empty then) is a TEXT: its number.");
        HeavierByHand x = new HeavierByHand();
        due.is("text() of no bytes", x.text(), 0);
        due.is("about(5)", x.about(5), 1);
        due.is("played(0) of no CLAUSES", x.played(0), -1);
        Due.feed(x, "wait 2;");
        due.is("text()", x.text(), 1);
        due.is("about(9)", x.about(9), 0);
        due.is("end(1)", x.end(1), -1);
        due.is("played(1)", x.played(1), -1);
        due.is("about(2)", x.about(2), 2);
        due.is("text() of no bytes again", x.text(), 2);
        due.is("played(2)", x.played(2), -1);
        due.is("about(2)", x.about(2), 2);
    }

    private static void toldWithAFault() {
        due.sentence("NONE: it has a FAULT;");
        HeavierByHand x = Worlds.ruled("grain 9;");
        Due.feed(x, "grain 8; wait");
        due.is("text()", x.text(), -1);
        due.is("about(5)", x.about(5), 1);
        due.is("about(6)", x.about(6), 0);
        due.is("about(9), empty then", x.about(9), 0);
        due.is("gives by the one that rules", x.gives(1, 0), 9);
        due.is("by(1)", x.by(1), false);
        due.is("played(1)", x.played(1), -2);
        due.is("text() of the next", Due.tell(x, "grain 7;"), 1);
        due.is("gives by the one that rules", x.gives(1, 0), 9);
    }

    /** However much was read ahead of it, a text has room for all that 300 bytes can say. */
    private static void toldBehindLongOnes() {
        due.sentence("NONE: it has a FAULT;");
        HeavierByHand x = Worlds.small();
        String most = "grain 240" + "-1".repeat(145);
        for (int i = 0; i < 3; i++) {
            due.is("text() with a FAULT", Due.tell(x, most + "!"), -1);
            due.is("fault(1)", x.fault(1), 299);
            due.is("text()", Due.tell(x, most + ";"), i);
            x.by(i);
            due.is("gives", x.gives(1, 0), 95);
        }
        due.is("text()", Due.tell(x, "grain 8;"), 3);
        x.by(3);
        due.is("gives", x.gives(1, 0), 8);
    }

    private static void fourTexts() {
        due.sentence("NONE: it has a FAULT; or (the tape stays) there are 4.");
        HeavierByHand x = new HeavierByHand();
        for (int i = 0; i < 4; i++) {
            due.is("text() with a FAULT", Due.tell(x, "wait;"), -1);
            due.is("about(5)", x.about(5), i);
            due.is("text()", Due.tell(x, "wait " + (10 + i) + ";"), i);
            if (i == 2) {
                x.image();
            }
        }
        Due.feed(x, "wait 7;");
        due.is("the 5th text()", x.text(), -1);
        due.is("about(9), the tape stays", x.about(9), 7);
        due.is("about(5)", x.about(5), 4);
        due.is("played(3)", x.played(3), -1);
        due.is("about(2)", x.about(2), 13);
        x.back();
        due.is("text() of what stayed", x.text(), 3);
        due.is("played(3)", x.played(3), -1);
        due.is("about(2)", x.about(2), 7);
        due.is("the 5th text() of no bytes", x.text(), -1);
    }

    private static void faultAheadOfAny() {
        due.sentence("NONE for others, and ahead of any.");
        HeavierByHand x = new HeavierByHand();
        due.is("fault(0)", x.fault(0), -1);
        due.is("fault(1)", x.fault(1), -1);
        Due.feed(x, "wait;");
        due.is("fault(0) of a tape", x.fault(0), -1);
        due.is("fault(1) of a tape", x.fault(1), -1);
        x.image();
        x.text();
        due.is("fault(0)", x.fault(0), 1);
        due.is("fault(1)", x.fault(1), 4);
    }

    private static void faultOfOthers() {
        due.sentence("NONE for others, and ahead of any.");
        HeavierByHand x = new HeavierByHand();
        Due.tell(x, "wait 100;");
        due.is("fault(0)", x.fault(0), 2);
        due.is("fault(1)", x.fault(1), 5);
        for (int what : new int[] {-1, 2, LEAST, GREATEST}) {
            due.is("fault(" + what + ")", x.fault(what), -1);
        }
    }

    private static void faultOfTheLatest() {
        due.sentence("Of the latest text that was read: 0 its FAULT (0 without), 1 its place (NONE without).");
        HeavierByHand x = new HeavierByHand();
        String[] texts = {"wait 1", "wait 1;", "", "wait 100;", "grain (((((((((1;", "grain 1;grain"};
        int[] faults = {1, 0, 0, 2, 3, 4};
        int[] places = {6, -1, -1, 5, 14, 8};
        for (int i = 0; i < texts.length; i++) {
            Due.tell(x, texts[i]);
            due.is("fault(0) of [" + texts[i] + "]", x.fault(0), faults[i]);
            due.is("fault(1) of [" + texts[i] + "]", x.fault(1), places[i]);
        }
        x.text();
        due.is("about(5)", x.about(5), 3);
        Due.tell(x, "wait 1;".repeat(20) + "wait 1;");
        due.is("fault(0)", x.fault(0), 5);
        due.is("fault(1)", x.fault(1), 140);
        x.text();
        due.is("about(5)", x.about(5), 4);
        due.is("fault(0) of the 4th", x.fault(0), 0);
        // With 4 TEXTS nothing is read.
        Due.tell(x, "wait");
        due.is("fault(0) of the latest that was read", x.fault(0), 0);
        due.is("fault(1) of the latest that was read", x.fault(1), -1);
    }

    private static void by() {
        due.sentence("THE TEXT (told; at first none) rules.");
        HeavierByHand x = Worlds.small();
        due.is("about(6) at first", x.about(6), -1);
        due.is("by(-1) at first", x.by(-1), true);
        due.is("by(0) of none", x.by(0), false);
        due.is("gives by none", x.gives(1, 0), 7);
        for (int i = 0; i < 4; i++) {
            Due.tell(x, "grain " + (20 + i) + ";");
            due.is("about(6), told alone", x.about(6), i - 1);
            due.is("by(" + (i + 1) + ")", x.by(i + 1), false);
            due.is("about(6)", x.about(6), i - 1);
            due.is("by(" + i + ")", x.by(i), true);
            due.is("about(6)", x.about(6), i);
            due.is("gives", x.gives(1, 0), 20 + i);
        }
        due.sentence("THE TEXT (NONE: none): true. False for others.");
        for (int text : new int[] {-2, 4, LEAST, GREATEST}) {
            due.is("by(" + text + ")", x.by(text), false);
            due.is("about(6)", x.about(6), 3);
            due.is("gives", x.gives(1, 0), 23);
        }
        due.is("by(-1)", x.by(-1), true);
        due.is("about(6)", x.about(6), -1);
        due.is("gives", x.gives(1, 0), 7);
    }

    private static void blanks() {
        due.sentence("TOKENS, blanks (32, 10) aside:");
        for (int sign = 0; sign < 256; sign++) {
            String text = "wait 1" + (char) sign + ";";
            boolean blank = sign == 32 || sign == 10;
            if (blank || sign >= '0' && sign <= '9') {
                due.good(text);
            } else {
                due.faulty(text, 1, sign == ';' ? 7 : 6);
            }
        }
        due.good(" \n\n wait\n\n1 ; \n");
        due.good("\n");
        due.faulty("wa it 1;", 1, 0);
        due.faulty("wait 1 1;", 1, 7);
        due.faulty("glove 1 < = 1;", 1, 10);
    }

    private static void letters() {
        due.sentence("letters a .. z, A .. Z one behind the other (one TOKEN),");
        // One more sign behind a word: a letter makes it another word, which is no TOKEN for that place, at its first byte.
        for (int sign = 0; sign < 256; sign++) {
            boolean letter = sign >= 'a' && sign <= 'z' || sign >= 'A' && sign <= 'Z';
            boolean blank = sign == 32 || sign == 10;
            boolean digit = sign >= '0' && sign <= '9';
            if (!blank && !digit) {
                due.faulty("wait" + (char) sign + "1;", 1, letter ? 0 : 4);
            }
        }
        for (String word : new String[] {"glove", "grain", "pay", "wash", "wait"}) {
            due.faulty(word.substring(0, word.length() - 1) + " 1;", 1, 0);
            due.faulty(word + word + " 1;", 1, 0);
            due.faulty(word.toUpperCase() + " 1;", 1, 0);
            due.faulty(Character.toUpperCase(word.charAt(0)) + word.substring(1) + " 1;", 1, 0);
        }
        due.faulty("a".repeat(300), 1, 0);
    }

    private static void digits() {
        due.sentence("digits likewise (NUMBERS, 0 .. 9999),");
        for (String number : new String[] {"0", "00", "9", "10", "1234567890".substring(0, 4), "9999", "0000009999"}) {
            due.good("grain " + number + ";");
        }
        due.is("gives by 0", Worlds.ruled("grain 0;").gives(1, 0), 0);
        due.is("gives by 90", Worlds.ruled("grain 90;").gives(1, 0), 90);
        due.is("gives by 00000000000000000000042", Worlds.ruled("grain 00000000000000000000042;").gives(1, 0), 42);
        due.is("gives by 9999", Worlds.ruled("grain 9999 - 9899;").gives(1, 0), 99);
        due.is("gives by 9999", Worlds.ruled("grain 9999 - 9989;").gives(1, 0), 10);
        due.good("pay0to1;wait5;");
        due.good("grain 1+hand;");
        due.faulty("grain 1hand;", 1, 7);
    }

    private static void signs() {
        due.sentence("<= >= < > = # + - * / ( ) ; (the longest).");
        for (String sign : new String[] {"<=", ">=", "<", ">", "=", "#"}) {
            due.good("glove 1" + sign + "2;");
        }
        for (String sign : new String[] {"+", "-", "*", "/"}) {
            due.good("grain 1" + sign + "2;");
        }
        due.good("grain (1);");
        due.faulty("glove 1 <== 2;", 1, 10);
        due.faulty("glove 1 <<= 2;", 1, 9);
        due.faulty("glove 1 >>= 2;", 1, 9);
        due.faulty("glove 1 == 2;", 1, 9);
        due.faulty("glove 1 =< 2;", 1, 9);
        due.faulty("glove 1 => 2;", 1, 9);
        due.faulty("glove 1 #= 2;", 1, 9);
        due.faulty("glove 1 <> 2;", 1, 9);
        due.faulty("glove 1 < = 2;", 1, 10);
    }

    private static void twentyClauses() {
        due.sentence("{CLAUSE}, 20 at most:");
        due.good("");
        for (int many : new int[] {1, 19, 20}) {
            due.good("wait 1;".repeat(many));
        }
        due.faulty("wait 1;".repeat(21), 5, 140);
        HeavierByHand x = new HeavierByHand();
        Due.tell(x, "wait 1;".repeat(20));
        due.is("played(0)", x.played(0), -1);
        due.is("about(2)", x.about(2), 20);
    }

    private static void clauseForms() {
        due.sentence("glove EITHER ; or grain SUM ; (each once) or pay NUMBER to NUMBER ; or wash NUMBER ;"
            + " or wait NUMBER ;.");
        String[] forms = {"glove 1 < 2 ;", "grain 1 ;", "pay 1 to 2 ;", "wash 1 ;", "wait 1 ;"};
        for (String form : forms) {
            due.good(form);
            String[] tokens = form.split(" ");
            StringBuilder ahead = new StringBuilder();
            for (int i = 0; i < tokens.length - 1; i++) {
                ahead.append(tokens[i]).append(' ');
                // It ends too early: the end can't stand there; so can't a second ; or a BAD sign.
                due.faulty(ahead.toString(), 1, ahead.length());
                due.faulty(ahead + "! ;", 1, ahead.length());
            }
            due.faulty(form + " ;", 1, form.length() + 1);
        }
        due.good("grain 1;glove 1<2;");
        due.good("glove 1<2;grain 1;");
        due.faulty("pay 1 2;", 1, 6);
        due.faulty("pay 1 to to 2;", 1, 9);
        due.faulty("pay to 2;", 1, 4);
        due.faulty("wash -1;", 1, 5);
        due.faulty("wait (1);", 1, 5);
        due.faulty("wait hour;", 1, 5);
    }

    private static void clausesCutShort() {
        due.sentence("glove EITHER ; or grain SUM ; (each once) or pay NUMBER to NUMBER ; or wash NUMBER ;"
            + " or wait NUMBER ;.");
        String[] forms = {"glove", "glove 1", "glove 1<", "glove not", "glove 1<2 and", "grain", "grain 1+", "grain (1",
            "pay", "pay 1", "pay 1 to", "wash", "wait"};
        for (String form : forms) {
            due.faulty(form + ";", 1, form.length());
            due.faulty(form + " wait 1;", 1, form.length() + 1);
        }
    }

    private static void eithers() {
        due.sentence("EITHER: BOTH {or BOTH}.");
        due.good("glove 1<2;");
        due.good("glove 1<2 or 1<2;");
        due.good("glove 1<2" + " or 1<2".repeat(41) + ";");
        due.faulty("glove ;", 1, 6);
        due.faulty("glove or 1<2;", 1, 6);
        due.faulty("glove 1<2 or ;", 1, 13);
        due.faulty("grain 1 or 2;", 1, 8);
    }

    private static void boths() {
        due.sentence("BOTH: ASK {and ASK}.");
        due.good("glove 1<2 and 1<2;");
        due.good("glove 1<2" + " and 1<2".repeat(35) + ";");
        due.faulty("glove and 1<2;", 1, 6);
        due.faulty("glove 1<2 and ;", 1, 14);
        due.faulty("glove 1<2 1<2;", 1, 10);
        due.faulty("grain 1 and 2;", 1, 8);
    }

    private static void asks() {
        due.sentence("ASK: not ASK, or SUM one of < <= > >= = # (unlike) SUM.");
        due.good("glove not 1<2;");
        due.good("glove not not 1<2;");
        due.faulty("glove not;", 1, 9);
        due.faulty("glove 1;", 1, 7);
        due.faulty("glove 1 < ;", 1, 10);
        due.faulty("glove < 1;", 1, 6);
        due.faulty("glove 1 < not 1;", 1, 10);
        due.faulty("glove 1 < 2 < 3;", 1, 12);
        due.faulty("glove (1 < 2);", 1, 9);
        due.faulty("glove (not 1 < 2);", 1, 7);
        due.faulty("grain not 1;", 1, 6);
        String[] signs = {"<", "<=", ">", ">=", "=", "#"};
        boolean[][] so = {{true, false, false}, {true, true, false}, {false, false, true}, {false, true, true},
            {false, true, false}, {true, false, true}};
        for (int i = 0; i < signs.length; i++) {
            for (int left = 1; left <= 3; left++) {
                String ask = left + " " + signs[i] + " 2";
                due.is(ask, Worlds.ruled("glove " + ask + ";").gives(1, 0), so[i][left - 1] ? 0 : 7);
                due.is("not " + ask, Worlds.ruled("glove not " + ask + ";").gives(1, 0), so[i][left - 1] ? 7 : 0);
            }
        }
    }

    private static void sums() {
        due.sentence("SUM: PRODUCT {+ or - PRODUCT}.");
        due.good("grain 1;");
        due.good("grain 1+2;");
        due.good("grain 1-2+3;");
        due.faulty("grain ;", 1, 6);
        due.faulty("grain +1;", 1, 6);
        due.faulty("grain 1+;", 1, 8);
        due.faulty("grain 1-;", 1, 8);
        due.faulty("grain 1++1;", 1, 8);
        due.good("grain 1--1;");
    }

    private static void products() {
        due.sentence("PRODUCT: ONE {* or / ONE}.");
        due.good("grain 1*2;");
        due.good("grain 1/2*3;");
        due.faulty("grain *1;", 1, 6);
        due.faulty("grain /1;", 1, 6);
        due.faulty("grain 1*;", 1, 8);
        due.faulty("grain 1/;", 1, 8);
        due.faulty("grain 1**1;", 1, 8);
        due.faulty("grain 1//1;", 1, 8);
        due.good("grain 1*-1;");
    }

    private static void ones() {
        due.sentence("ONE: NUMBER, NAME, ( SUM ), - ONE.");
        for (String one : new String[] {"1", "hand", "own", "hour", "market", "weight", "times", "from", "(1)", "-1",
            "-hand", "-(1)", "--1", "(-1)", "((1))", "(1+2*3)"}) {
            due.good("grain " + one + ";");
        }
        for (String other : new String[] {"hands", "Hand", "owns", "weights", "time", "to", "glove", "grain", "pay",
            "wash", "wait", "or", "and", "not", ")", ";", "<", "#", "="}) {
            due.faulty("grain " + other + ";", 1, 6);
        }
        due.faulty("grain ();", 1, 7);
        due.faulty("grain (1;", 1, 8);
        due.faulty("grain (1", 1, 8);
        due.faulty("grain 1);", 1, 7);
        due.faulty("grain (1));", 1, 9);
        due.faulty("grain -;", 1, 7);
        due.faulty("grain 1 1;", 1, 8);
    }

    private static void cantStand() {
        due.sentence("1 it can't stand there, or is none.");
        due.faulty("!", 1, 0);
        due.faulty("5;", 1, 0);
        due.faulty(";", 1, 0);
        due.faulty("to", 1, 0);
        due.faulty("hand", 1, 0);
        due.faulty("not 1 < 2;", 1, 0);
        due.faulty("nothing;", 1, 0);
        due.faulty("wait 1;;", 1, 7);
        due.faulty("wait 1; ?", 1, 8);
        due.faulty("\0", 1, 0);
        due.faulty("\u00ff", 1, 0);
        due.faulty(" ".repeat(299) + "!", 1, 299);
    }

    private static void ends() {
        due.sentence("at the TOKEN's first byte (of the end at the length),");
        due.faulty("wait", 1, 4);
        due.faulty("wait ", 1, 5);
        due.faulty("wait \n ", 1, 7);
        due.faulty("wait 1", 1, 6);
        due.faulty("wait" + " ".repeat(296), 1, 300);
        due.faulty(" ".repeat(296) + "wait", 1, 300);
        due.faulty(" ".repeat(295) + "waitt", 1, 295);
        due.faulty("grain 1" + "+1".repeat(146) + "+", 1, 300);
        due.faulty("wait \n 12345;", 2, 7);
    }

    private static void theFirstFault() {
        due.sentence("FAULTS, the first as TOKENS are come to,");
        due.faulty("wait 100; !", 2, 5);
        due.faulty("wait ! 100;", 1, 5);
        due.faulty("! wait 100;", 1, 0);
        due.faulty("pay 20 to 10;", 2, 4);
        due.faulty("pay 19 to 10 !", 2, 10);
        due.faulty("pay 20 !", 2, 4);
        due.faulty("grain 1; grain 10000;", 4, 9);
        due.faulty("grain 10000; grain 1;", 2, 6);
        due.faulty("grain (((((((((10000", 3, 14);
        due.faulty("grain ((((((((10000(", 2, 14);
        due.faulty("wait 1;".repeat(20) + "wait 100;", 5, 140);
        due.faulty("wait 1;".repeat(19) + "wait 100;wait 1;", 2, 138);
    }

    private static void theLeastFault() {
        due.sentence("of one the least:");
        // A TOKEN that can't stand there is that first, whatever else it is.
        due.faulty("10000;", 1, 0);
        due.faulty("grain 1 10000;", 1, 8);
        due.faulty("glove 10000 10000;", 2, 6);
        due.faulty("grain ((((((((1(", 1, 15);
        due.faulty("grain ((((((((not 1", 1, 14);
        due.faulty("grain 1; wait grain", 1, 14);
        due.faulty("wait 1;".repeat(20) + "to", 1, 140);
        due.faulty("wait 1;".repeat(20) + "100", 1, 140);
        due.faulty("wait 1;".repeat(20) + "!", 1, 140);
        // The second glove or grain is that ahead of being the 21st CLAUSE.
        due.faulty("grain 1;" + "wait 1;".repeat(19) + "grain", 4, 141);
        due.faulty("glove 1<2;" + "wait 1;".repeat(19) + "glove", 4, 143);
        due.faulty("glove 1<2;" + "wait 1;".repeat(19) + "grain", 5, 143);
    }

    private static void tooGreat() {
        due.sentence("2 a NUMBER above 9999; of pay and wash a COIN above 19, a HAND above 9; of wait above 99.");
        due.good("grain 9999;");
        due.faulty("grain 10000;", 2, 6);
        due.good("glove 9999 < 9999;");
        due.faulty("glove 9999 < 10000;", 2, 13);
        due.faulty("grain 1 * (2 + -10000);", 2, 16);
        // Beyond what an int or a long can hold.
        due.faulty("grain 2147483648;", 2, 6);
        due.faulty("grain 4294967296;", 2, 6);
        due.faulty("grain 4294967297;", 2, 6);
        due.faulty("grain 18446744073709551617;", 2, 6);
        due.faulty("grain " + "9".repeat(294), 2, 6);
        due.faulty("grain 1" + "0".repeat(293), 2, 6);
        due.good("grain " + "0".repeat(289) + "9999;");
        due.good("pay 0 to 0;");
        due.good("pay 19 to 9;");
        due.faulty("pay 20 to 9;", 2, 4);
        due.faulty("pay 19 to 10;", 2, 10);
        due.faulty("pay 4294967296 to 0;", 2, 4);
        due.faulty("pay 0 to 4294967296;", 2, 9);
        due.good("wash 0;");
        due.good("wash 19;");
        due.faulty("wash 20;", 2, 5);
        due.faulty("wash 10000;", 2, 5);
        due.faulty("wash 4294967296;", 2, 5);
        due.good("wait 0;");
        due.good("wait 99;");
        due.faulty("wait 100;", 2, 5);
        due.faulty("wait 4294967296;", 2, 5);
    }

    private static void tooDeep() {
        due.sentence("3 the 9th of ( not and - (of one ONE)");
        due.good("grain " + "(".repeat(8) + "1" + ")".repeat(8) + ";");
        due.faulty("grain " + "(".repeat(9) + "1" + ")".repeat(9) + ";", 3, 14);
        due.good("grain " + "-".repeat(8) + "1;");
        due.faulty("grain " + "-".repeat(9) + "1;", 3, 14);
        due.good("glove " + "not ".repeat(8) + "1<2;");
        due.faulty("glove " + "not ".repeat(9) + "1<2;", 3, 38);
        due.faulty("grain " + "(".repeat(294), 3, 14);
        due.faulty("grain " + "-".repeat(294), 3, 14);
        due.faulty("glove " + "not ".repeat(73), 3, 38);
        due.is("gives by 8 brackets", Worlds.ruled("grain ((((((((9))))))));").gives(1, 0), 9);
        due.is("gives by 8 minus", Worlds.ruled("grain --------9;").gives(1, 0), 9);
        due.is("gives by 8 not", Worlds.ruled("glove " + "not ".repeat(8) + "1<2;").gives(1, 0), 0);
        // The minus of a SUM is none of these.
        due.good("grain 1" + "-1".repeat(20) + ";");
        due.good("grain 1---------1;");
        due.faulty("grain 1----------1;", 3, 16);
    }

    private static void openAroundOneAnother() {
        due.sentence("that are open around one another (at it).");
        due.good("grain " + "-(".repeat(4) + "1" + ")".repeat(4) + ";");
        due.faulty("grain " + "-(".repeat(4) + "-1" + ")".repeat(4) + ";", 3, 14);
        due.faulty("grain " + "-(".repeat(4) + "(1)" + ")".repeat(4) + ";", 3, 14);
        due.good("glove " + "not ".repeat(7) + "(1)<-2;");
        due.good("glove " + "not ".repeat(7) + "-1<(2);");
        due.faulty("glove " + "not ".repeat(7) + "(-1)<2;", 3, 35);
        due.faulty("glove " + "not ".repeat(7) + "-(1)<2;", 3, 35);
        due.faulty("glove " + "not ".repeat(8) + "(1)<2;", 3, 38);
        due.faulty("glove " + "not ".repeat(8) + "-1<2;", 3, 38);
        due.faulty("glove " + "not ".repeat(8) + "1<(2);", 3, 40);
        due.faulty("glove " + "not ".repeat(8) + "1<-2;", 3, 40);
        // What is closed is open no longer: a minus behind its ONE, a not behind its ASK.
        due.good("grain (1)" + "+(1)".repeat(20) + ";");
        due.good("grain -1" + "*-1".repeat(20) + ";");
        due.good("grain --------1*--------1+--------1;");
        due.good("grain " + "(".repeat(8) + "1" + ")".repeat(8) + "*" + "(".repeat(8) + "1" + ")".repeat(8) + ";");
        due.good("glove " + "not ".repeat(8) + "1<2 and " + "not ".repeat(8) + "1<2 or " + "not ".repeat(8) + "1<2;");
        due.good("glove " + "not ".repeat(8) + "1<2;grain --------1;");
        due.good("glove " + "not ".repeat(8) + "1<2 and (1)<-1 or ((1))<1;");
        // A minus is open around its ONE alone, not around what is behind that.
        due.good("grain -(((((((1)))))))*((((((((1))))))));");
        due.faulty("grain -((((((((1))))))));", 3, 14);
    }

    private static void twice() {
        due.sentence("4 glove, grain for the second time (at it).");
        due.faulty("glove 1<2;glove 1<2;", 4, 10);
        due.faulty("glove 1<2;glove", 4, 10);
        due.faulty("grain 1;grain 1;", 4, 8);
        due.faulty("grain 1; \n grain", 4, 11);
        due.faulty("glove 1<2;grain 1;wait 1;glove 1<2;", 4, 25);
        due.faulty("glove 1<2;grain 1;wait 1;grain 1;", 4, 25);
        due.good("grain 1;glove 1<2;");
        due.good("pay 0 to 1;pay 0 to 1;wash 0;wash 0;wait 1;wait 1;");
        // What an earlier text had is no first time.
        HeavierByHand x = new HeavierByHand();
        due.is("text() of glove", Due.tell(x, "glove 1<2;grain 1;"), 0);
        due.is("text() of glove in the next one", Due.tell(x, "glove 1<2;grain 1;"), 1);
        due.is("text() with a FAULT", Due.tell(x, "glove 1<2;grain 1;!"), -1);
        due.is("text() of glove behind that", Due.tell(x, "glove 1<2;grain 1;"), 2);
    }

    private static void tooMany() {
        due.sentence("5 the 21st CLAUSE (at its first TOKEN).");
        String[] firsts = {"glove", "grain", "pay", "wash", "wait"};
        for (String first : firsts) {
            due.faulty("wait 1;".repeat(20) + first, 5, 140);
            due.faulty("wait 1;".repeat(20) + "\n " + first + " 1;", 5, 142);
        }
        due.good("wait 1;".repeat(20) + " \n ");
        due.good("glove 1<2;grain 1;" + "wait 1;".repeat(18));
        due.faulty("glove 1<2;grain 1;" + "wait 1;".repeat(19), 5, 144);
        // CLAUSES of an earlier text do not count.
        HeavierByHand x = new HeavierByHand();
        due.is("text() of 20", Due.tell(x, "wait 1;".repeat(20)), 0);
        due.is("text() of 20 more", Due.tell(x, "wait 1;".repeat(20)), 1);
        due.is("text() of 21", Due.tell(x, "wait 1;".repeat(21)), -1);
        due.is("text() of 20 behind that", Due.tell(x, "wait 1;".repeat(20)), 2);
    }
}
