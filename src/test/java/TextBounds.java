/** The tape, its tokens, what a text may tell. */
final class TextBounds extends Bounds {
    private TextBounds() {
    }

    /** A text on a new object is taken. */
    static EldestAge lines(String text, int lines) {
        EldestAge x = new EldestAge();
        Check.feed(x, text);
        due("street of " + text, x.street(), lines);
        due("fault of " + text, x.fault(), 0);
        return x;
    }

    /** A text on a new object has a fault. */
    static void fault(String text, int fault, int place) {
        EldestAge x = new EldestAge();
        Check.feed(x, text);
        due("street of " + text, x.street(), -10 - place);
        due("fault of " + text, x.fault(), fault);
    }

    @Says("THE TAPE has 400 bytes")
    static void theTapeHas400Bytes() {
        EldestAge x = new EldestAge();
        for (int i = 1; i <= 50; i++) {
            due("feed " + i, x.feed(0x2020202020202020L), 8 * i);
        }
        due("the 51st", x.feed(0x2020202020202020L), FULL);
        due("bytes", x.count(3), 400);
        due("all are read", x.street(), 0);
    }

    @Says("places from 0")
    static void placesFrom0() {
        fault("$", 1, 0);
        fault(" $", 1, 1);
        fault(times(399, " ") + "$", 1, 399);
        fault(times(399, " ") + "5", 2, 399);
    }

    @Says("Eight bytes come behind THE TAPE, the highest first: how many it has.")
    static void theHighestFirst() {
        EldestAge x = new EldestAge();
        due("law sum;", x.feed(0x6c61772073756d3bL), 8);
        due("one line", x.street(), 1);
        due("sum", x.rule(1), 2);
        // Bytes above 127, the highest and the lowest of the eight.
        x.feed(0xff20202020202020L);
        due("the highest is the first", x.street(), -10);
        x.feed(0x20202020202020ffL);
        due("the lowest is the last", x.street(), -17);
        x.feed(-1);
        due("-1", x.street(), -10);
        x.feed(0xa0a0a0a0a0a0a0a0L);
        due("all eight bits: 160 is no blank", x.street(), -10);
        x.feed(Long.MIN_VALUE);
        due("128 ahead of 0", x.street(), -10);
        x.feed(0x2020202020202020L);
        due("behind what there is", x.feed(0x2020202420202020L), 16);
        due("a sign of the second eight", x.street(), -10 - 11);
    }

    @Says("FULL: more than 400.")
    static void fullIsMoreThan400() {
        EldestAge x = new EldestAge();
        Check.feed(x, times(393, " "));
        due("393 and 8", x.feed(0x2424242424242424L), FULL);
        due("they stay 393", x.count(3), 393);
        due("end", x.end(392), 393);
        due("392 and 8", x.feed(0x2020202020202024L), 400);
        due("400 and 8", x.feed(0), FULL);
        due("the 400 stay", x.street(), -10 - 399);
    }

    @Says("THE TAPE keeps its first n bytes: how many it had.")
    static void keepsItsFirstBytes() {
        EldestAge x = new EldestAge();
        due("none of none", x.end(0), 0);
        Check.feed(x, "law sum;law mean;");
        due("all", x.end(17), 17);
        due("first", x.end(8), 17);
        due("again", x.end(8), 8);
        due("one line", x.street(), 1);
        due("the first", x.rule(1), 2);
        // What was cut is gone, though it comes to stand where it stood.
        Check.feed(x, "houses 8888;");
        x.end(8);
        Check.feed(x, ";");
        due("houses 8;", x.street(), 1);
        due("houses", x.rule(0), 8);
        Check.feed(x, "houses 77;");
        x.end(8);
        due("houses 7", x.street(), -10 - 8);
        due("the end", x.fault(), 2);
        Check.feed(x, "law summ");
        x.end(7);
        Check.feed(x, ";");
        due("law sum;", x.street(), 1);
        Check.feed(x, "law summ");
        x.end(7);
        due("law sum", x.street(), -10 - 7);
        Check.feed(x, "$$$$");
        due("none", x.end(0), 4);
        due("no line", x.street(), 0);
    }

    @Says("BAD (n above that, too).")
    static void endAboveOrBelow() {
        EldestAge x = new EldestAge();
        due("1 of none", x.end(1), BAD);
        due("-1 of none", x.end(-1), BAD);
        Check.feed(x, "law sum;");
        due("9 of 8", x.end(9), BAD);
        due("-1 of 8", x.end(-1), BAD);
        due("400 of 8", x.end(400), BAD);
        for (int far : FAR) {
            due("end " + far, x.end(far), BAD);
        }
        due("8 of 8", x.end(8), 8);
        Check.feed(x, times(392, " "));
        due("401 of 400", x.end(401), BAD);
        due("400 of 400", x.end(400), 400);
        due("all stays", x.street(), 1);
    }

    @Says("TOKENS, each as long as may be")
    static void tokensAsLongAsMayBe() {
        fault("law summ;", 2, 4);
        fault("law sumsum;", 2, 4);
        fault("law su;", 2, 4);
        fault("la w sum;", 2, 0);
        fault("laww sum;", 2, 0);
        fault("houses 12;", 3, 7);
        fault("houses 1234;", 1, 7);
        fault("houses 1 2;", 2, 9);
        fault("one plain 1 11;", 2, 14);
        fault("one plain 1 1 1 diedd 2 2;", 2, 16);
        fault("one plains 1 1 1;", 2, 4);
        fault("expect 0 11112;", 1, 9);
    }

    @Says("any number of blanks (32) ahead of, between, behind them")
    static void anyNumberOfBlanks() {
        lines("", 0);
        lines(" ", 0);
        lines(times(400, " "), 0);
        lines(times(392, " ") + "law sum;", 1);
        lines("law" + times(393, " ") + "sum;", 1);
        lines("law sum" + times(392, " ") + ";", 1);
        lines("law sum;" + times(392, " "), 1);
        lines("  one   plain   5   9   1   died   5   10   ;   move   5   9   0   1   ;   ", 2);
        fault("law" + times(397, " "), 2, 400);
        fault("law sum" + times(393, " "), 2, 400);
        // Other bytes that look like blanks are none.
        for (char c : new char[] {0, 9, 10, 13, 31, 33, 160}) {
            fault("law sum;" + c, 1, 8);
            fault("law" + c + "sum;", 1, 3);
        }
    }

    @Says("one at least between two NAMES, between two NUMBERS; else none is needed")
    static void blanksBetween() {
        fault("lawsum;", 2, 0);
        fault("oneplain 5 9 1;", 2, 0);
        fault("one plain 59 1;", 2, 14);
        fault("one plain 5 91;", 2, 14);
        lines("one plain5 9 1died5 10;move5 9 0 1;expect0 1 1 2 2;houses8;law sum;", 5);
        fault("houses4law sum;", 2, 7);
        lines("houses4;law mean;one aunt0 0 0;", 3);
    }

    @Says("NAMES (a .. z)")
    static void namesOfAToZ() {
        for (char c = 'a'; c <= 'z'; c++) {
            fault("" + c, 2, 0);
            fault("law sum" + c + ";", 2, 4);
        }
        for (char c : new char[] {'`', '{', 'A', 'Z', '@', '[', '_', '-', 223, 228}) {
            fault("" + c, 1, 0);
            fault("law sum" + c + ";", 1, 7);
            fault("law " + c + "sum;", 1, 4);
        }
        fault("Law sum;", 1, 0);
        fault("law Sum;", 1, 4);
        fault("law suM;", 2, 4);
    }

    @Says("NUMBERS (1 to 3 figures)")
    static void numbersOf1To3Figures() {
        due("1", lines("houses 8;", 1).rule(0), 8);
        due("2", lines("houses 08;", 1).rule(0), 8);
        due("3", lines("houses 008;", 1).rule(0), 8);
        fault("houses 0008;", 1, 7);
        fault("houses 00000000008;", 1, 7);
        fault("houses 4294967300;", 1, 7);
        fault("houses " + times(393, "0"), 1, 7);
        due("all figures", lines("one plain 98 354 7;houses 8;", 2).one(0, 1), day(98, 354));
        due("all figures", lines("one plain 76 321 0;", 1).one(0, 1), day(76, 321));
        lines("one plain 000 000 000;one plain 009 019 003;", 2);
        for (char c : new char[] {'/', ':', '+', '-', '.', 178}) {
            fault("houses " + c + "4;", 1, 7);
            fault("houses 4" + c + ";", 1, 8);
        }
    }

    @Says("the sign ; (every other byte is no TOKEN)")
    static void everyOtherByteIsNoToken() {
        EldestAge[] x = new EldestAge[4];
        for (int b = 0; b < 256; b++) {
            if (b % 64 == 0) {
                x[b / 64] = new EldestAge();
            }
            EldestAge y = x[b / 64];
            boolean token = b == ';' || (b >= '0' && b <= '9') || (b >= 'a' && b <= 'z');
            y.feed((long) b << 56 | 0x20202020202020L);
            due("street of byte " + b, y.street(), b == ' ' ? 0 : -10);
            due("fault of byte " + b, y.fault(), b == ' ' ? 0 : token ? 2 : 1);
        }
        fault(":", 1, 0);
        fault("law sum:", 1, 7);
        fault("law sum,", 1, 7);
    }

    @Says("street: { line }")
    static void fromNoLineToTheMost() {
        lines("", 0);
        due("houses of no line", lines("", 0).rule(0), 4);
        String all = "houses8;law sum;" + times(10, "one plain 0 0 0;") + times(12, "move 0 0 0 0;")
            + times(4, "expect 0 0 0 0 0;");
        due("it fills the tape", all.length(), 400);
        EldestAge x = lines(all, 28);
        int[] rules = {8, 2, 10, 12, 4};
        for (int what = 0; what < 5; what++) {
            due("rule " + what, x.rule(what), rules[what]);
        }
        // The last byte is read, too.
        fault(all.substring(0, 399) + "$", 1, 399);
        fault(all.substring(0, 399), 2, 399);
        fault(all.substring(0, 399) + " ", 2, 400);
        // In whichever order.
        lines("expect 7 0 0 0 0;move 0 0 0 6;one plain 0 0 5;law sum;houses 8;", 5);
    }

    @Says("L: eldest | youngest | sum | mean")
    static void lawsOfATexts() {
        String[] laws = {"eldest", "youngest", "sum", "mean"};
        for (int i = 0; i < 4; i++) {
            due(laws[i], lines("law " + laws[i] + ";", 1).rule(1), i);
        }
        for (String none : new String[] {"elder", "eldes", "eldestt", "e", "young", "summ", "su", "means", "mea", "plain", "law"}) {
            fault("law " + none + ";", 2, 4);
        }
    }

    @Says("K: plain | aunt | vain | double | lodger")
    static void kindsOfATexts() {
        String[] kinds = {"plain", "aunt", "vain", "double", "lodger"};
        for (int i = 0; i < 5; i++) {
            due(kinds[i], lines("one " + kinds[i] + " 1 2 3;", 1).one(0, 0), i);
        }
        for (String none : new String[] {"plai", "aunts", "aun", "vainn", "doubl", "lodge", "lodgers", "uncle", "eldest", "one"}) {
            fault("one " + none + " 1 2 3;", 2, 4);
        }
    }

    @Says("one: YEAR (0 to 99), its DAY (0 to 359) he is BORN, HOUSE (0 to 7)")
    static void boundsOfOne() {
        EldestAge x = lines("houses 8;one plain 0 0 0;one plain 99 359 7;", 3);
        due("the first day", x.one(0, 1), 0);
        due("the first house", x.one(0, 2), 0);
        due("the last day", x.one(1, 1), LAST);
        due("the last house", x.one(1, 2), 7);
        due("none", x.one(1, 3), NONE);
        fault("one plain 100 0 0;", 3, 10);
        fault("one plain 999 0 0;", 3, 10);
        fault("one plain 0 360 0;", 3, 12);
        fault("one plain 99 360 0;", 3, 13);
        fault("one plain 0 999 0;", 3, 12);
        fault("one plain 0 0 8;", 3, 14);
        fault("houses 8;one plain 0 0 8;", 3, 23);
        fault("one plain 0 0 999;", 3, 14);
    }

    @Says("died: YEAR, its DAY.")
    static void boundsOfDied() {
        due("the first day", lines("one plain 0 0 0 died 0 1;", 1).one(0, 3), 1);
        due("the last day", lines("one plain 99 358 0 died 99 359;", 1).one(0, 3), LAST);
        fault("one plain 0 0 0 died 100 0;", 3, 21);
        fault("one plain 0 0 0 died 99 360;", 3, 24);
        fault("one plain 0 0 0 died 0 360;", 3, 23);
    }

    @Says("move: YEAR, its DAY, ONE (0 to 9), HOUSE.")
    static void boundsOfMove() {
        EldestAge x = lines("houses 8;" + times(10, "one plain 9 9 0;") + "move 0 0 0 0;move 99 359 9 7;", 13);
        int[][] due = {{0, 0, 0}, {LAST, 9, 7}};
        for (int m = 0; m < 2; m++) {
            for (int what = 0; what < 3; what++) {
                due("moved " + m + " " + what, x.moved(m, what), due[m][what]);
            }
        }
        fault("one plain 0 0 0;move 100 0 0 0;", 3, 21);
        fault("one plain 0 0 0;move 0 360 0 0;", 3, 23);
        fault("one plain 0 0 0;move 0 0 10 0;", 3, 25);
        fault("one plain 0 0 0;move 0 0 0 8;", 3, 27);
        fault("houses 8;one plain 0 0 0;move 0 0 0 8;", 3, 36);
    }

    @Says("expect: HOUSE, YEAR, its DAY, YEAR, its DAY.")
    static void boundsOfExpect() {
        EldestAge x = lines("houses 8;expect 0 0 0 0 0;expect 7 99 359 99 359;expect 7 0 0 99 359;", 4);
        int[][] due = {{0, 0, 0}, {7, LAST, LAST}, {7, 0, LAST}};
        for (int e = 0; e < 3; e++) {
            for (int what = 0; what < 3; what++) {
                due("expected " + e + " " + what, x.expected(e, what), due[e][what]);
            }
        }
        fault("expect 8 0 0 0 0;", 3, 7);
        fault("houses 8;expect 8 0 0 0 0;", 3, 16);
        fault("expect 0 100 0 0 0;", 3, 9);
        fault("expect 0 0 360 0 0;", 3, 11);
        fault("expect 0 0 0 100 0;", 3, 13);
        fault("expect 0 0 0 0 360;", 3, 15);
    }

    @Says("houses N ;")
    static void boundsOfHouses() {
        for (int n = 1; n <= 8; n++) {
            due("houses " + n, lines("houses " + n + ";", 1).rule(0), n);
        }
        fault("houses 0;", 3, 7);
        fault("houses 000;", 3, 7);
        fault("houses 9;", 3, 7);
        fault("houses 999;", 3, 7);
    }

    @Says("A text that is taken tells all, in place of what there was (what no line tells is as at first)")
    static void tellsAll() {
        EldestAge x = lines("houses 8;law mean;one plain 1 1 7;one aunt 1 1 1;move 50 1 0 1;expect 7 1 1 2 2;", 6);
        Check.feed(x, "one vain 2 2 3;");
        due("one line", x.street(), 1);
        int[] rules = {4, 0, 1, 0, 0};
        for (int what = 0; what < 5; what++) {
            due("rule " + what, x.rule(what), rules[what]);
        }
        due("he is the first", x.one(0, 1), day(2, 2));
        due("no move of another one", x.lives(0, LAST), 3);
        // Moves of the text ahead are none that could be the ones ahead.
        Check.feed(x, "one vain 2 2 3;move 3 3 0 0;");
        due("an early move", x.street(), 2);
        Check.feed(x, "one vain 2 2 3;move 2 2 0 1;");
        due("an earlier one", x.street(), 2);
        Check.feed(x, "houses 5;law sum;");
        due("houses once more", x.street(), 2);
        due("no text", x.street(), 0);
        due("four", x.rule(0), 4);
        due("eldest", x.rule(1), 0);
    }

    @Says("in place of what there was")
    static void nobodyIsLeft() {
        String few = "one plain 1 0 2;one aunt 20 0 1;";
        String many = "law sum;" + times(7, "one plain 0 0 2;") + times(5, "move 9 0 1 0;") + times(2, "expect 0 1 0 9 0;");
        EldestAge x = lines(many, 15);
        Check.feed(x, few);
        due("fewer", x.street(), 2);
        alike("fewer", x, lines(few, 2));
        EldestAge y = lines(many, 15);
        due("none", y.street(), 0);
        alike("none", y, new EldestAge());
    }

    @Says("nothing is SEEN, WANTED; IMAGES are gone; SHEETS stay.")
    static void whatGoesByAText() {
        EldestAge x = full();
        due("no line", x.street(), 0);
        int[] due = {0, 0, 0, 0, 6};
        for (int what = 0; what < 5; what++) {
            due("count " + what, x.count(what), due[what]);
        }
        due("image 0", x.back(0), STATE);
        due("image 1", x.back(1), STATE);
        due("no lie", x.lie(), NONE);
        due("nothing is wanted", x.fetch(0, false, 0), 0);
        due("forget", x.forget(0), 0);
        due("content", x.content(), 0);
        x.bear(0, 0, 0);
        due("the sheet's cells stay", x.read(0, 1, 0, 2), 2);
        due("the sheet's cells stay", x.moved(1, 0), 300);
        due("keep anew", x.keep(0), 0);
    }

    @Says("by a FAULT, too) tells the street: how many lines; -10 less the place of its FAULT: that which was told stays.")
    static void whatStaysByAFault() {
        EldestAge x = full();
        Check.feed(x, "houses 2;law youngest;one plain 0 0 1;one plain 0 0 1;move 1 1 0 0;expect 0 0 0 1 1;$");
        due("the last byte", x.street(), -10 - 84);
        due("the tape is empty", x.count(3), 0);
        int[] rules = {4, 3, 1, 1, 1};
        for (int what = 0; what < 5; what++) {
            due("rule " + what, x.rule(what), rules[what]);
        }
        int[] counts = {1, 1, 2, 0, 6};
        for (int what = 0; what < 5; what++) {
            due("count " + what, x.count(what), counts[what]);
        }
        due("born", x.one(0, 1), day(1, 1));
        due("moved", x.moved(0, 0), day(2, 2));
        due("expected", x.expected(0, 0), 3);
        due("image 1", x.back(1), 1);
        Check.feed(x, "one plain 0 0 7;");
        due("by a fault of the end", x.street(), -26);
        due("the tape is empty", x.count(3), 0);
        due("people", x.rule(2), 1);
        due("empty: a text of no line", x.street(), 0);
        due("nobody", x.rule(2), 0);
    }

    private static EldestAge full() {
        EldestAge x = lines("law mean;one aunt 1 1 1;move 2 2 0 2;expect 3 0 0 9 9;", 4);
        x.see(0, 0, 0);
        x.want(0, 1);
        x.keep(0);
        x.keep(1);
        x.sheet(0, 1, 6);
        x.lay(0, 0, 200);
        x.lay(0, 3, 300);
        return x;
    }

    @Says("The FAULT of the latest street(); 0.")
    static void theLatestFault() {
        EldestAge x = new EldestAge();
        due("at first", x.fault(), 0);
        String[] texts = {"$", "law", "houses 9;", "law sum;law sum;", times(11, "one plain 0 0 0;"), "one plain 0 0 7;"};
        for (int i = 0; i < 6; i++) {
            Check.feed(x, texts[i]);
            due("not by feed " + i, x.fault(), i);
            x.street();
            due("fault " + i, x.fault(), i + 1);
        }
        x.law(2);
        x.end(0);
        due("other calls leave it", x.fault(), 6);
        due("taken", x.street(), 0);
        due("none", x.fault(), 0);
    }
}
