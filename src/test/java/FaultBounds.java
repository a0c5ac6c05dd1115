/** The faults of a text, each where it is met first. */
final class FaultBounds extends Bounds {
    /** A line of each sort, token by token, each good where the lines ahead of it stand. */
    private static final String[][] LINES = {
        {"houses", "4", ";"},
        {"law", "sum", ";"},
        {"one", "plain", "5", "9", "1", ";"},
        {"one", "plain", "5", "9", "1", "died", "5", "10", ";"},
        {"move", "5", "9", "0", "1", ";"},
        {"expect", "1", "5", "9", "5", "9", ";"}};
    private static final String TEN = times(10, "one plain 1 1 1;");
    private static final String TWELVE = times(12, "move 1 1 0 1;");
    private static final String FOUR = times(4, "expect 0 1 1 1 1;");

    private FaultBounds() {
    }

    private static void fault(String text, int fault, int place) {
        TextBounds.fault(text, fault, place);
    }

    private static String ahead(String[] line, int tokens) {
        StringBuilder b = new StringBuilder();
        for (int i = 0; i < tokens; i++) {
            b.append(line[i]).append(' ');
        }
        return b.toString();
    }

    @Says("1 no TOKEN, a NUMBER that is too long (its first byte).")
    static void fault1WhereverATokenIsRead() {
        for (String[] line : LINES) {
            for (int i = 0; i <= line.length; i++) {
                String ahead = ahead(line, i);
                for (String none : new String[] {"$", "A", "-5", "\t", "1234", "0000", "99999999999"}) {
                    fault(ahead + none, 1, ahead.length());
                    fault(ahead + none + " ; law", 1, ahead.length());
                }
            }
        }
        fault("houses4$;", 1, 7);
        fault("houses$;", 1, 6);
        fault("law sum;1234", 1, 8);
    }

    @Says("2 a TOKEN that can not stand there (a NAME that begins no line, is no L, K, died; or the end: the length).")
    static void fault2WhereverATokenIsRead() {
        for (String[] line : LINES) {
            for (int i = 1; i < line.length; i++) {
                String ahead = ahead(line, i);
                boolean number = line[i].charAt(0) <= '9';
                fault(ahead + "law;", 2, ahead.length());
                if (!number) {
                    fault(ahead + "5;", 2, ahead.length());
                }
                if (!line[i].equals(";") && !line[i].equals("died")) {
                    fault(ahead + ";", 2, ahead.length());
                }
                // The end has the length as its place, blanks counted.
                fault(ahead, 2, ahead.length());
                fault(ahead.substring(0, ahead.length() - 1), 2, ahead.length() - 1);
                fault(ahead + "   ", 2, ahead.length() + 3);
            }
        }
    }

    @Says("a NAME that begins no line")
    static void fault2AtALinesBegin() {
        for (String name : new String[] {"eldest", "plain", "died", "x", "house", "housess", "laws", "la", "ones", "on", "moves",
            "mov", "expects", "expec", "street", "line"}) {
            fault(name + " 1;", 2, 0);
            fault("law sum;" + name, 2, 8);
        }
        fault(";", 2, 0);
        fault("law sum;;", 2, 8);
        fault("5", 2, 0);
        fault("law sum; 5", 2, 9);
    }

    @Says("is no L, K, died")
    static void fault2OfANameThatIsNone() {
        fault("law plain;", 2, 4);
        fault("one eldest 1 1 1;", 2, 4);
        fault("one plain 1 1 1 dies 2 2;", 2, 16);
        fault("one plain 1 1 1 law;", 2, 16);
        fault("one plain 1 1 1 2;", 2, 16);
        // died stands there once, and in its line alone.
        fault("one plain 1 1 1 died 2 2 died 3 3;", 2, 25);
        fault("one plain 1 1 1;died 2 2;", 2, 16);
        fault("move 1 1 0 1 died 2 2;", 2, 13);
        fault("expect 1 1 1 2 2 died 3 3;", 2, 17);
    }

    @Says("a NAME that begins no line, is no L, K, died")
    static void fault2OfANameByOneLetter() {
        String[] texts = {"houses 4;", "law eldest;", "law youngest;", "law sum;", "law mean;", "one plain 5 9 1;", "one aunt 5 9 1;",
            "one vain 5 9 1;", "one double 5 9 1;", "one lodger 5 9 1;", "one plain 5 9 1 died 5 10;", "move 5 9 0 1;one plain 5 9 1;",
            "expect 1 5 9 5 9;"};
        for (String text : texts) {
            due("street of " + text, told(text).rule(0), 4);
            for (int i = 0; i < text.length(); i++) {
                if (text.charAt(i) >= 'a') {
                    int begin = text.lastIndexOf(' ', i) + 1;
                    begin = Math.max(begin, text.lastIndexOf(';', i) + 1);
                    fault(text.substring(0, i) + "z" + text.substring(i + 1), 2, begin);
                    fault(text.substring(0, i) + "z" + text.substring(i), 2, begin);
                }
            }
        }
    }

    @Says("3 a NUMBER out of its bounds.")
    static void fault3AheadOfWhatIsBehind() {
        fault("houses 0", 3, 7);
        fault("houses 9", 3, 7);
        fault("houses 9 9", 3, 7);
        fault("houses 9 $", 3, 7);
        fault("one plain 100", 3, 10);
        fault("one plain 5 360", 3, 12);
        fault("one plain 5 9 8", 3, 14);
        fault("one plain 5 9 1 died 100", 3, 21);
        fault("one plain 5 9 1 died 5 360", 3, 23);
        fault("one plain 5 9 1 died 4 360", 3, 23);
        fault("move 100", 3, 5);
        fault("move 5 360", 3, 7);
        fault("move 5 9 10", 3, 9);
        fault("move 5 9 0 8", 3, 11);
        fault("expect 8", 3, 7);
        fault("expect 1 100", 3, 9);
        fault("expect 1 5 360", 3, 11);
        fault("expect 1 5 9 100", 3, 13);
        fault("expect 1 5 9 5 360", 3, 15);
        fault("expect 1 5 9 4 360", 3, 15);
    }

    @Says("4 houses, law for the second time (its NAME)")
    static void fault4OfASecondTime() {
        fault("houses 4;houses 4;", 4, 9);
        fault("houses 4;law sum;houses", 4, 17);
        fault("houses 4;law sum;houses 9$", 4, 17);
        fault("law sum;law sum;", 4, 8);
        fault("law sum;houses 4;law", 4, 17);
        fault("law sum; law none", 4, 9);
        // Each text has a first time of its own, and one of each in one text is none.
        EldestAge x = new EldestAge();
        for (int i = 0; i < 3; i++) {
            Check.feed(x, i == 1 ? "houses 4;law sum;law" : "houses 4;law sum;");
            due("text " + i, x.street(), i == 1 ? -10 - 17 : 2);
        }
    }

    @Says("of died, not behind that he is BORN")
    static void fault4OfDied() {
        fault("one plain 5 9 1 died 5 9;", 4, 23);
        fault("one plain 5 9 1 died 5 8;", 4, 23);
        fault("one plain 5 9 1 died 4 359;", 4, 23);
        fault("one plain 5 9 1 died 0 0", 4, 23);
        fault("one plain 99 359 1 died 99 359;", 4, 27);
        fault("one plain 0 0 1 died 0  0;", 4, 24);
        TextBounds.lines("one plain 5 9 1 died 5 10;", 1);
        TextBounds.lines("one plain 5 359 1 died 6 0;", 1);
        TextBounds.lines("one plain 0 0 1 died 0 1;", 1);
    }

    @Says("of a move, ahead of that of the move ahead")
    static void fault4OfAMove() {
        String one = "one plain 9 9 1;move 5 9 0 1;";
        fault(one + "move 5 8 0 1;", 4, 36);
        fault(one + "move 4 359 0 1;", 4, 36);
        fault(one + "move 5 8", 4, 36);
        fault(one + "move 5 8 10 9;", 4, 36);
        TextBounds.lines(one + "move 5 9 0 1;", 3);
        TextBounds.lines(one + "move 5 10 0 1;", 3);
        TextBounds.lines("one plain 9 9 1;move 0 0 0 1;", 2);
        // The move ahead is the one told ahead, whoever moves, whatever stands between.
        fault(one + "move 6 9 0 2;law sum;move 6 8 0 1;", 4, 57);
        fault("one plain 9 9 1;one plain 9 9 1;move 5 9 0 1;move 5 8 1 1;", 4, 52);
    }

    @Says("of expect, the second one ahead of the first (the NUMBER of its DAY).")
    static void fault4OfExpect() {
        fault("expect 0 5 9 5 8;", 4, 15);
        fault("expect 0 5 9 4 359;", 4, 15);
        fault("expect 0 5 9 4 9", 4, 15);
        fault("expect 0 0 1 0 0;", 4, 15);
        TextBounds.lines("expect 0 5 9 5 9;", 1);
        TextBounds.lines("expect 0 5 359 6 0;", 1);
        // Each by itself: one may be ahead of the other.
        TextBounds.lines("expect 0 5 9 5 9;expect 0 4 9 4 9;", 2);
    }

    @Says("5 the 11th one, the 13th move, the 5th expect (its NAME).")
    static void fault5OfOneTooMany() {
        TextBounds.lines(TEN, 10);
        fault(TEN + "one plain 1 1 1;", 5, 160);
        fault(TEN + "one", 5, 160);
        fault(TEN + "  one uncle $", 5, 162);
        TextBounds.lines("one plain 1 1 1;" + TWELVE, 13);
        fault("one plain 1 1 1;" + TWELVE + "move 1 1 0 1;", 5, 172);
        fault("one plain 1 1 1;" + TWELVE + "move 0 0", 5, 172);
        TextBounds.lines(FOUR, 4);
        fault(FOUR + "expect 0 1 1 1 1;", 5, 68);
        fault(FOUR + "expect;", 5, 68);
        // Other lines do not count.
        TextBounds.lines(TEN + TWELVE + FOUR + "law sum;", 27);
        fault(TEN + TWELVE + FOUR + "law s", 2, 388);
        fault(TEN + TWELVE + "move", 5, 316);
    }

    @Says("Behind all (the length): 6 a HOUSE, a ONE that there is not.")
    static void fault6BehindAll() {
        fault("one plain 1 1 4;", 6, 16);
        fault("one plain 1 1 7;law sum;", 6, 24);
        fault("one plain 1 1 4;   ", 6, 19);
        fault("houses 1;one plain 1 1 1;", 6, 25);
        fault("houses 7;one plain 1 1 7;", 6, 25);
        fault("one plain 1 1 0;move 1 1 0 4;", 6, 29);
        fault("move 1 1 0 0;", 6, 13);
        fault("one plain 1 1 0;move 1 1 1 0;", 6, 29);
        fault(times(9, "one plain 1 1 1;") + "move 1 1 9 0;", 6, 157);
        fault("expect 4 1 1 1 1;", 6, 17);
        fault("houses 7;expect 7 1 1 1 1;", 6, 26);
        // Of several the last, too; what comes behind makes it good.
        fault("one plain 1 1 3;one plain 1 1 4;", 6, 32);
        fault("one plain 1 1 3;move 1 1 0 3;move 1 1 0 4;", 6, 42);
        fault("expect 3 1 1 1 1;expect 4 1 1 1 1;", 6, 34);
        TextBounds.lines("one plain 1 1 7;move 1 1 1 7;expect 7 1 1 1 1;one plain 1 1 1;houses 8;", 5);
        TextBounds.lines("houses 1;one plain 1 1 0;move 1 1 0 0;expect 0 1 1 1 1;", 4);
    }

    @Says("FAULTS, the first met as it is read")
    static void theFirstMet() {
        // Each fault is met ahead of each that stands behind it.
        String[] faulty = {"$", "law law;", "houses 9;", "expect 0 5 9 5 8;"};
        int[] fault = {1, 2, 3, 4};
        int[] place = {0, 4, 7, 15};
        for (int a = 0; a < 4; a++) {
            for (int b = 0; b < 4; b++) {
                fault(faulty[a] + faulty[b], fault[a], place[a]);
            }
            fault(faulty[a] + TEN + "one", fault[a], place[a]);
            fault(TEN + "one" + faulty[a], a == 0 ? 5 : 2, 160);
            fault(faulty[a] + "one plain 1 1 7;", fault[a], place[a]);
            fault("one plain 1 1 7;" + faulty[a], fault[a], 16 + place[a]);
            fault("move 0 0 9 7;" + faulty[a], fault[a], 13 + place[a]);
        }
    }

    @Says("(a TOKEN is read when the one before has been taken)")
    static void readWhenTheOneBeforeIsTaken() {
        fault("houses 9$", 3, 7);
        fault("houses 0 1234", 3, 7);
        fault("houses 4$", 1, 8);
        fault("x$", 2, 0);
        fault("law x$", 2, 4);
        fault("one x$", 2, 4);
        fault("one plain 5 9 1 x$", 2, 16);
        fault("one plain 100$", 3, 10);
        fault("one plain 5 9 1 died 5 9$", 4, 23);
        fault("one plain 5 9 1 died 5 10$", 1, 25);
        fault("move 5 9 0 1;move 5 8$", 4, 20);
        fault("move 5 9 0 1;move 5 9$", 1, 21);
        fault("expect 0 5 9 5 8$", 4, 15);
        fault("expect 0 5 9 5 9$", 1, 16);
        fault("houses 4;houses$", 4, 9);
        fault("law sum;law 1234", 4, 8);
        fault(TEN + "one$", 5, 160);
        fault(FOUR + "expect$", 5, 68);
        fault("one plain 1 1 1;" + TWELVE + "move 1234", 5, 172);
        // Years are no days: a year that is too early is not met ahead of its day.
        fault("one plain 5 9 1 died 4$", 1, 22);
        fault("move 5 9 0 1;move 4 360 0 1;", 3, 20);
        fault("expect 0 5 9 4;", 2, 14);
    }
}
