/** Promises 6 to 11 and 14: the tape, texts, faults, laws and scripts. */
public final class TextTests {
    private static final Due due = new Due();

    public static void main(String[] args) {
        tape();
        fourTexts();
        tokens();
        grammar();
        misplaced();
        tooGreat();
        tooDeep();
        twiceAndTooMany();
        names();
        sums();
        asks();
        rulingTexts();
        scripts();
        manyReadings();
        longestTexts();
        due.end();
    }

    private static void tape() {
        HeavierByHand x = new HeavierByHand();
        for (int i = 1; i <= 15; i++) {
            due.is("feed", x.feed(0x20202020, 0x20202020, 0x20202020, 0x20202020, 0x20202020), 20 * i);
        }
        due.is("feed beyond 300", x.feed(0, 0, 0, 0, 0), -1);
        due.is("about(9)", x.about(9), 300);
        due.is("end(301)", x.end(301), -1);
        due.is("end(-1)", x.end(-1), -1);
        due.is("about(9)", x.about(9), 300);
        due.is("end(300)", x.end(300), 300);
        due.is("end(281)", x.end(281), 281);
        due.is("feed beyond 300", x.feed(0, 0, 0, 0, 0), -1);
        due.is("end(282)", x.end(282), -1);
        due.is("end(280)", x.end(280), 280);
        due.is("feed", x.feed(0x20202020, 0x20202020, 0x20202020, 0x20202020, 0x77616974), 300);
        due.is("text()", x.text(), -1);
        due.is("fault(1)", x.fault(1), 300);
        due.is("about(9)", x.about(9), 0);
        due.is("end(0)", x.end(0), 0);
        due.is("the empty text", x.text(), 0);
        due.is("fault(0)", x.fault(0), 0);
        due.is("fault(1)", x.fault(1), -1);
        due.is("fault(2)", x.fault(2), -1);
        due.is("fault(-1)", x.fault(-1), -1);
        // The highest byte first, and bytes above 127: e9 is no token.
        due.is("feed", x.feed(0x77616974, 0x353be920, 0, 0, 0), 20);
        due.is("text()", x.text(), -1);
        due.is("fault(0)", x.fault(0), 1);
        due.is("fault(1)", x.fault(1), 6);
    }

    private static void fourTexts() {
        HeavierByHand x = new HeavierByHand();
        for (int i = 0; i < 4; i++) {
            due.is("by(" + i + ")", x.by(i), false);
            due.is("text()", Due.tell(x, "wait " + (i + 1) + ";"), i);
            due.is("by(" + i + ")", x.by(i), true);
        }
        Due.feed(x, "wait ;");
        due.is("the 5th text", x.text(), -1);
        due.is("about(9)", x.about(9), 6);
        due.is("fault(0)", x.fault(0), 0);
        due.is("about(5)", x.about(5), 4);
        due.is("about(6)", x.about(6), 3);
        due.is("by(4)", x.by(4), false);
        due.is("by(-2)", x.by(-2), false);
        due.is("by(-1)", x.by(-1), true);
        due.is("about(6)", x.about(6), -1);
        for (int i = 0; i < 4; i++) {
            due.is("played", x.played(i), -1);
        }
        due.is("about(2)", x.about(2), 10);
        due.is("played(4)", x.played(4), -2);
        due.is("played(-1)", x.played(-1), -2);
    }

    private static void tokens() {
        due.good("pay0to1;wash2;wait99;");
        due.good("  pay\n0 to\n1\n;\n");
        due.good("glove hour<=5;grain own*2;");
        due.good("wait 0000000000000000000000000000000000099;");
        due.faulty("pay 0to 1", 1, 9);
        due.faulty("payx 0 to 1;", 1, 0);
        due.faulty("Pay 0 to 1;", 1, 0);
        due.faulty("pay\t0 to 1;", 1, 3);
        due.faulty("pay\r0 to 1;", 1, 3);
        due.faulty("wait 1;\0", 1, 7);
        due.faulty("glove 1 < = 2;", 1, 10);
        due.faulty("glove 1 =< 2;", 1, 9);
        due.faulty("glove 1 <== 2;", 1, 10);
        due.faulty("glove 1 <> 2;", 1, 9);
        due.faulty("glove 1 >>= 2;", 1, 9);
        due.faulty("glove 1 & 2;", 1, 8);
        for (char letter : new char[] {'a', 'z', 'A', 'Z'}) {
            due.faulty("pay" + letter + " 0 to 1;", 1, 0);
        }
        for (char other : new char[] {'@', '[', '`', '{', '_', '.', ',', ':', 128, 255}) {
            due.faulty("pay" + other + " 0 to 1;", 1, 3);
        }
        due.faulty("wait 1:;", 1, 6);
        due.faulty("wait 1/;", 1, 6);
        due.good("glove 1>=2;");
        due.good("glove 1#2 or 1=2 and not 1>2;");
    }

    private static void grammar() {
        due.good("");
        due.good(" \n ");
        due.good("grain (1);");
        due.good("grain -1 - -1 * -(2 + hand) / -own;");
        due.good("glove not not 1 < 2 and not (1) < 2 or (1 + 2) * 3 # 4;");
        due.good("grain hand+own+hour+market+weight+times+from;");
        due.good("wait 1;glove 1=1;wash 1;grain 1;pay 19 to 9;");
    }

    private static void misplaced() {
        due.faulty(";", 1, 0);
        due.faulty("wait 1;;", 1, 7);
        due.faulty("glove 1;", 1, 7);
        due.faulty("glove 1 < 2 < 3;", 1, 12);
        due.faulty("glove (1 < 2);", 1, 9);
        due.faulty("glove not;", 1, 9);
        due.faulty("glove 1 < not 2;", 1, 10);
        due.faulty("glove 1 < 2 and;", 1, 15);
        due.faulty("glove 1 < 2 or or 1 < 2;", 1, 15);
        due.faulty("grain 1 < 2;", 1, 8);
        due.faulty("grain not 1;", 1, 6);
        due.faulty("grain 1 2;", 1, 8);
        due.faulty("grain 1 12345;", 1, 8);
        due.faulty("grain (1;", 1, 8);
        due.faulty("grain 1);", 1, 7);
        due.faulty("grain ();", 1, 7);
        due.faulty("grain * 1;", 1, 6);
        due.faulty("grain + 1;", 1, 6);
        due.faulty("grain to;", 1, 6);
        due.faulty("grain pay;", 1, 6);
        due.faulty("grain", 1, 5);
        due.faulty("grain 1", 1, 7);
        due.faulty("grain 1  \n", 1, 10);
        due.faulty("pay to 1;", 1, 4);
        due.faulty("pay -1 to 1;", 1, 4);
        due.faulty("pay 1 1;", 1, 6);
        due.faulty("pay 1 to;", 1, 8);
        due.faulty("wash;", 1, 4);
        due.faulty("wait hour;", 1, 5);
        due.faulty("5;", 1, 0);
        due.faulty("99999;", 1, 0);
        due.faulty("hand;", 1, 0);
        due.faulty("wait 1; !", 1, 8);
        due.faulty("grain ! 10000;", 1, 6);
    }

    private static void tooGreat() {
        due.good("grain 9999;");
        due.faulty("grain 10000;", 2, 6);
        due.faulty("grain 99999999999999999999;", 2, 6);
        due.faulty("grain 4294967297;", 2, 6);
        due.good("pay 19 to 9;wash 19;wait 99;wait 0;");
        due.faulty("pay 20 to 10;", 2, 4);
        due.faulty("pay 19 to 10;", 2, 10);
        due.faulty("wash 20;", 2, 5);
        due.faulty("wait 100;", 2, 5);
        due.faulty("wait 10000", 2, 5);
        due.faulty("pay 20 !", 2, 4);
        due.faulty("glove 10000 10000", 2, 6);
    }

    private static void tooDeep() {
        String eight = "((((((((";
        due.good("grain " + eight + "1" + eight.replace('(', ')') + ";");
        due.good("grain " + eight + "1" + eight.replace('(', ')') + "+" + eight + "1" + eight.replace('(', ')') + ";");
        due.faulty("grain " + eight + "(1;", 3, 14);
        due.faulty("grain " + eight + "-1;", 3, 14);
        due.good("grain --------1;");
        due.faulty("grain ---------1;", 3, 14);
        due.good("grain 1---------1;");
        due.good("grain --------1*--------1;");
        due.good("glove not not not not not not not not 1<2;");
        due.good("glove not not not not not not not not 1<2 and not 1<2 or (1)<-2;");
        due.faulty("glove not not not not not not not not not 1<2;", 3, 38);
        due.faulty("glove not not not not not not not not (1)<2;", 3, 38);
        due.faulty("glove not not not not not not not not 1<-2;", 3, 40);
        due.good("glove not not not not not not not 1-(2)<-2;");
        due.faulty("glove not not not not not not not 1-(-2)<-2;", 3, 37);
        due.faulty("grain " + eight + "1 (", 1, 16);
    }

    private static void twiceAndTooMany() {
        due.faulty("glove 1<2;glove 1<2;", 4, 10);
        due.faulty("grain 1;wait 1;grain", 4, 15);
        due.good("grain 1;glove 1<2;");
        due.good("wait 1;".repeat(20));
        due.faulty("wait 1;".repeat(20) + "wait 1;", 5, 140);
        due.faulty("wait 1;".repeat(20) + " wait", 5, 141);
        due.faulty("wait 1;".repeat(20) + "glove", 5, 140);
        due.faulty("wait 1;".repeat(20) + ";", 1, 140);
        due.faulty("wait 1;".repeat(20) + "hand", 1, 140);
        due.faulty("grain 1;" + "wait 1;".repeat(19) + "grain 1;", 4, 141);
        due.faulty("grain 1;" + "wait 1;".repeat(19) + "glove 1;", 5, 141);
    }

    /** What hand 1 gives to coin 0 by a law; the coin of 200 is held by hand 2, paid twice, at hour 30. */
    private static int givenBy(String law) {
        HeavierByHand x = new HeavierByHand();
        x.hand(5);
        x.hand(7);
        x.hand(12);
        x.coin(200, 0);
        x.pay(0, 1);
        x.pay(0, 2);
        x.later(30);
        x.rules(1, 3);
        if (Due.tell(x, law) != 0) {
            return -3;
        }
        x.by(0);
        return x.gives(1, 0);
    }

    private static void law(String law, int want) {
        due.is("gives(1, 0) by [" + law + "]", givenBy(law), want);
    }

    private static void names() {
        law("", 7);
        law("wait 5;", 7);
        law("grain hand;", 1);
        law("grain own;", 7);
        law("grain hour;", 6);
        law("grain market;", 1);
        law("grain weight - 200;", 19);
        law("grain times;", 2);
        law("grain from;", 2);
        law("glove from = 2;", 0);
        law("glove from = 1;", 7);
        law("glove market = 0; grain 9;", 9);
        law("grain 9; glove market = 1;", 0);
    }

    private static void sums() {
        law("grain 100;", 99);
        law("grain 99;", 99);
        law("grain 0;", 0);
        law("grain -1;", 0);
        law("grain 10 - 3 - 2;", 5);
        law("grain 10 - 3 + 2;", 9);
        law("grain 2 + 3 * 4;", 14);
        law("grain (2 + 3) * 4;", 20);
        law("grain 20 / 3 * 3;", 18);
        law("grain 3 * 20 / 3;", 20);
        law("grain 50 + -7 / 2;", 47);
        law("grain 50 - 7 / -2;", 53);
        law("grain 50 + 7 / 0;", 50);
        law("grain -(5 - 9);", 4);
        law("grain - - 4;", 4);
        law("grain -4 * -3;", 12);
        law("grain 9999 * 9999 / 9999 - 80;", 20);
        law("grain -9999 * 9999 / 9999 + 150;", 50);
        law("grain 1000 * 1000 + 5 - 9999 * 100 - 90;", 10);
        law("grain 1000 * 1000 * 1000 / 9000 - 100;", 11);
        law("grain 9999 * 9999 * 9999 * 9999 * 9999 / 9999 - 80;", 20);
        law("grain -1000 * 1000 - 50 + 9999 * 100 + 125;", 25);
    }

    private static void so(String ask, boolean want) {
        law("glove " + ask + ";", want ? 0 : 7);
    }

    private static void asks() {
        so("1 < 2", true);
        so("2 < 2", false);
        so("2 <= 2", true);
        so("3 <= 2", false);
        so("3 > 2", true);
        so("2 > 2", false);
        so("2 >= 2", true);
        so("1 >= 2", false);
        so("2 = 2", true);
        so("1 = 2", false);
        so("1 # 2", true);
        so("2 # 2", false);
        so("not 1 < 2", false);
        so("not not 1 < 2", true);
        so("not 1 < 2 or 1 < 2", true);
        so("not 2 < 1 and 2 < 1", false);
        so("1 < 2 or 1 < 2 and 2 < 1", true);
        so("1 < 2 and 2 < 1 or 2 < 1", false);
        so("2 < 1 or 1 < 2 and 1 < 2", true);
        so("1 < 2 or 2 < 1 or 2 < 1", true);
        so("1 < 2 and 1 < 2 and 2 < 1", false);
        so("5 - 9 < -3", true);
        so("-1 < 0", true);
        so("1000 * 1000 = 1001 * 1000", true);
    }

    private static void rulingTexts() {
        HeavierByHand x = new HeavierByHand();
        x.hand(5);
        x.hand(7);
        x.coin(0, 0);
        Due.tell(x, "grain 40;pay 0 to 1;");
        Due.tell(x, "grain weight + times + hour;pay 0 to 0;");
        due.is("gives(1, 0) by none", x.gives(1, 0), 7);
        due.is("played(0) by none", x.played(0), -1);
        due.is("of(0, 0)", x.of(0, 0), 7);
        x.by(0);
        due.is("played(1) by 0", x.played(1), -1);
        due.is("of(0, 0)", x.of(0, 0), 47);
        x.by(1);
        x.later(3);
        due.is("gives(1, 0)", x.gives(1, 0), 52);
        due.is("pay(0, 1)", x.pay(0, 1), 99);
        due.is("gives(0, 0)", x.gives(0, 0), 99);
        x.by(-1);
        due.is("gives(0, 0)", x.gives(0, 0), 5);
        // Market is by days: from hour 24 * 6 it is day 6, from 24 * 7 day 0 again.
        HeavierByHand y = new HeavierByHand();
        y.hand(5);
        y.hand(7);
        y.coin(0, 0);
        Due.tell(y, "grain 10 + market;");
        y.by(0);
        for (int day = 0; day < 41; day++) {
            for (int market = 0; market < 7; market++) {
                y.rules(market, 0);
                due.is("gives on day " + day, y.gives(1, 0), day % 7 == market ? 11 : 10);
            }
            y.later(24);
        }
    }

    private static void scripts() {
        HeavierByHand x = new HeavierByHand();
        x.hand(5);
        x.hand(7);
        x.coin(100, 0);
        Due.tell(x, "pay 0 to 1;glove 1<0;wait 20;grain 1;wash 0;pay 0 to 1;wait 9;");
        due.is("played(0)", x.played(0), 5);
        due.is("of(0, 0)", x.of(0, 0), 100);
        due.is("of(0, 1)", x.of(0, 1), 1);
        due.is("about(2)", x.about(2), 20);
        due.is("about(7)", x.about(7), 2);
        due.is("played(0)", x.played(0), 0);
        Due.tell(x, "wash 1;");
        due.is("played(1)", x.played(1), 0);
        Due.tell(x, "wash 0;pay 0 to 2;");
        due.is("played(2)", x.played(2), 1);
        due.is("about(7)", x.about(7), 3);
        for (int i = 0; i < 9; i++) {
            x.later(99);
        }
        Due.tell(x, "wait 60;wait 0;wait 28;wait 1;");
        due.is("played(3)", x.played(3), 3);
        due.is("about(2)", x.about(2), 999);
    }

    /** What was read ahead of it leaves nothing behind. */
    private static void manyReadings() {
        HeavierByHand x = new HeavierByHand();
        x.hand(5);
        x.hand(7);
        x.coin(100, 0);
        for (int i = 0; i < 60; i++) {
            due.is("text()", Due.tell(x, "glove 1+2+3+4+5+6+7+8+9 > 1;grain 1+2+3+4+5+6;wait 1;wait 2;x"), -1);
            due.is("fault(1)", x.fault(1), 60);
        }
        due.is("text()", Due.tell(x, "pay 0 to 1;"), 0);
        x.by(0);
        due.is("gives(1, 0)", x.gives(1, 0), 7);
        due.is("played(0)", x.played(0), -1);
        due.is("about(2)", x.about(2), 0);
        due.is("text()", Due.tell(x, "grain 3;"), 1);
        x.by(1);
        due.is("gives(0, 0)", x.gives(0, 0), 3);
    }

    private static void longestTexts() {
        String ones = "1+".repeat(146);
        law("grain " + ones + "1;", 99);
        law("grain " + ones.replace('+', '-') + "9;", 0);
        law("grain 99" + "-1+1".repeat(72) + ";", 99);
        due.faulty("grain " + "1+".repeat(147), 1, 300);
        due.faulty(";".repeat(300), 1, 0);
        due.faulty("grain " + "9".repeat(294), 2, 6);
        due.faulty("a".repeat(300), 1, 0);
        due.good(" ".repeat(300));
        due.good("grain 1;" + " ".repeat(292));
        law("glove " + "1>2 or ".repeat(41) + "1<2;", 0);
        law("glove " + "1<2 and ".repeat(36) + "1>2;", 7);
    }
}
