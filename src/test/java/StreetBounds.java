/** What there is and what is changed: houses, people, moves, births, laws. */
final class StreetBounds extends Bounds {
    private StreetBounds() {
    }

    private static void rules(EldestAge x, int houses, int law, int people, int moves, int expected) {
        int[] due = {houses, law, people, moves, expected};
        for (int what = 0; what < 5; what++) {
            due("rule " + what, x.rule(what), due[what]);
        }
    }

    @Says("Four HOUSES, nobody; SHEETS have nothing.")
    static void aNewObject() {
        EldestAge x = new EldestAge();
        rules(x, 4, 0, 0, 0, 0);
        due("house 3", x.number(3, 0), NONE);
        due("house 4", x.number(4, 0), BAD);
        due("all are without", x.at(-1, LAST), 15);
        due("no ONE", x.one(0, 0), BAD);
        for (int k = 0; k < 4; k++) {
            due("lay " + k, x.lay(k, 0, 0), -11);
            due("read " + k, x.read(k, 0, 0, 1), 0);
            due("torn " + k, x.torn(), 1);
        }
        int[] counts = {0, 0, 0, 0, NONE};
        for (int what = 0; what < 5; what++) {
            due("count " + what, x.count(what), counts[what]);
        }
        due("fault", x.fault(), 0);
        due("torn at first", new EldestAge().torn(), 0);
        due("no image", x.back(0), STATE);
        due("no image", x.back(1), STATE);
    }

    @Says("YEARS 0 to 99 have 360 DAYS each; DAYS 0 to 35999 in all.")
    static void yearsAndDays() {
        EldestAge x = told("one plain 0 0 0;one plain 0 359 0;one plain 1 0 0;one plain 99 0 0;one plain 99 359 0;");
        int[] due = {0, 359, 360, 35640, LAST};
        for (int p = 0; p < 5; p++) {
            due("BORN " + p, x.one(p, 1), due[p]);
        }
        due("bear on the first", x.bear(0, 0, 0), 5);
        due("bear on the last", x.bear(0, LAST, 0), 6);
        due("number on the first", x.number(0, 0), 0);
        due("number on the last", x.number(0, LAST), 99);
        due("number behind it", x.number(0, LAST + 1), BAD);
        due("number ahead of the first", x.number(0, -1), BAD);
        due("most YEARS", x.years(0, LAST), 99);
        due("YEARS on the last of YEAR 0", x.years(0, 359), 0);
        due("YEARS on the first of YEAR 1", x.years(0, 360), 1);
    }

    @Says("HOUSES 0 on (1 to 8; 4).")
    static void oneToEightHouses() {
        EldestAge one = told("houses 1;");
        rules(one, 1, 0, 0, 0, 0);
        due("house 0 of 1", one.bear(0, 0, 0), 0);
        due("house 1 of 1", one.bear(0, 0, 1), BAD);
        due("at of 1", one.at(0, 0), 1);
        due("without of 1", one.at(-1, LAST), 0);
        EldestAge eight = told("houses 8;");
        rules(eight, 8, 0, 0, 0, 0);
        due("house 7 of 8", eight.bear(0, 0, 7), 0);
        due("house 8 of 8", eight.bear(0, 0, 8), BAD);
        due("at of 8", eight.at(0, 0), 128);
        due("without of 8", eight.at(-1, 0), 127);
        due("4 at first", told("").rule(0), 4);
    }

    @Says("PEOPLE (10 at most, by order)")
    static void tenPeople() {
        EldestAge x = new EldestAge();
        for (int p = 0; p < 10; p++) {
            due("bear " + p, x.bear(p % 5, 100 - p, p % 4), p);
        }
        due("the 11th", x.bear(0, 0, 0), FULL);
        rules(x, 4, 0, 10, 0, 0);
        for (int p = 0; p < 10; p++) {
            due("the order is that in which they came " + p, x.one(p, 1), 100 - p);
        }
        EldestAge y = told(times(10, "one plain 1 1 1;"));
        due("the 11th behind a text", y.bear(0, 0, 0), FULL);
        EldestAge z = told(times(9, "one plain 1 1 1;"));
        due("the tenth behind a text", z.bear(0, 0, 0), 9);
    }

    @Says("the DAY he DIES, or none")
    static void theDayHeDiesOrNone() {
        EldestAge x = told("one plain 1 0 0;one plain 1 0 1 died 99 359;");
        due("none", x.one(0, 3), NONE);
        due("the last day", x.one(1, 3), LAST);
        due("who has none LIVES on the last day", x.lives(0, LAST), 0);
        due("who dies then does not", x.lives(1, LAST), NONE);
        due("bear", x.bear(0, 0, 0), 2);
        due("who is born has none", x.one(2, 3), NONE);
    }

    @Says("MOVES (12), by order: a DAY (no earlier than that of the one ahead)")
    static void twelveMoves() {
        EldestAge x = told("one plain 0 0 0;one plain 0 0 1;");
        for (int m = 0; m < 12; m++) {
            due("move " + m, x.move(100 + m / 2, m % 2, m % 4), m + 1);
        }
        due("the 13th", x.move(200, 0, 0), FULL);
        rules(x, 4, 0, 2, 12, 0);
        for (int m = 0; m < 12; m++) {
            due("DAY " + m, x.moved(m, 0), 100 + m / 2);
            due("ONE " + m, x.moved(m, 1), m % 2);
            due("HOUSE " + m, x.moved(m, 2), m % 4);
        }
        due("undo", x.undo(11), 12);
        due("there is room for one", x.move(105, 1, 0), 12);
        due("and no more", x.move(105, 1, 0), FULL);
        EldestAge y = told("one plain 1 1 1;" + times(12, "move 1 1 0 1;"));
        due("the 13th behind a text", y.move(LAST, 0, 0), FULL);
    }

    @Says("BAD: also too early; FULL.")
    static void aMoveThatIsTooEarly() {
        EldestAge x = told("one plain 0 0 0;one plain 0 0 1;");
        due("no move is ahead: DAY 0", x.move(0, 0, 0), 1);
        due("that DAY once more", x.move(0, 0, 1), 2);
        due("later", x.move(500, 0, 2), 3);
        due("a day ahead", x.move(499, 0, 3), BAD);
        due("a day ahead, of another one", x.move(499, 1, 3), BAD);
        due("that day", x.move(500, 1, 3), 4);
        due("the last day", x.move(LAST, 0, 0), 5);
        due("a day ahead of it", x.move(LAST - 1, 0, 0), BAD);
        due("a refused one is none that is ahead", x.move(36000, 0, 0), BAD);
        due("undo", x.undo(2), 5);
        due("by what is ahead now", x.move(1, 0, 0), 3);
        due("none", x.undo(0), 3);
        due("none is ahead", x.move(0, 1, 1), 1);
        x.undo(0);
        x.move(LAST, 0, 1);
        x.undo(0);
        due("none is ahead, not one that was undone", x.move(LAST - 1, 0, 1), 1);
        // A text's moves, an image's moves are ahead, too.
        EldestAge y = told("one plain 0 0 0;move 9 9 0 1;");
        due("ahead of a text's", y.move(day(9, 8), 0, 0), BAD);
        y.keep(0);
        due("that day", y.move(day(50, 9), 0, 0), 2);
        due("back", y.back(0), 1);
        due("ahead of what is gone", y.move(day(50, 8), 0, 0), 2);
    }

    @Says("BIRTHS that are EXPECTED (4): a HOUSE, a DAY from which on, one up to which (no earlier).")
    static void fourBirths() {
        EldestAge x = new EldestAge();
        due("one day", x.expect(3, 77, 77), 1);
        due("no earlier", x.expect(3, 77, 76), BAD);
        due("all days", x.expect(0, 0, LAST), 2);
        due("the first", x.expect(0, 0, 0), 3);
        due("the last", x.expect(0, LAST, LAST), 4);
        due("the fifth", x.expect(0, 0, 0), FULL);
        rules(x, 4, 0, 0, 0, 4);
        int[][] due = {{3, 77, 77}, {0, 0, LAST}, {0, 0, 0}, {0, LAST, LAST}};
        for (int e = 0; e < 4; e++) {
            for (int what = 0; what < 3; what++) {
                due("expected " + e + " " + what, x.expected(e, what), due[e][what]);
            }
        }
        EldestAge y = told(times(4, "expect 0 1 1 1 1;"));
        due("the fifth behind a text", y.expect(0, 0, 0), FULL);
        EldestAge z = told(times(3, "expect 0 1 1 1 1;"));
        due("the fourth behind a text", z.expect(0, 0, 0), 4);
    }

    @Says("A BIRTH more is EXPECTED: how many are. BAD; FULL.")
    static void expectRefused() {
        EldestAge x = told("houses 2;");
        due("house -1", x.expect(-1, 0, 0), BAD);
        due("house 2", x.expect(2, 0, 0), BAD);
        due("from -1", x.expect(0, -1, 0), BAD);
        due("up to 36000", x.expect(0, 0, 36000), BAD);
        due("from 36000", x.expect(0, 36000, 36000), BAD);
        due("both below", x.expect(0, -2, -1), BAD);
        due("a day earlier", x.expect(0, 1, 0), BAD);
        due("much earlier", x.expect(0, LAST, 0), BAD);
        due("none is", x.rule(4), 0);
        for (int e = 1; e <= 4; e++) {
            due("expect " + e, x.expect(1, e, LAST), e);
        }
        due("full", x.expect(1, 5, LAST), FULL);
        due("bad, though it is full", x.expect(1, 5, 4), BAD);
        due("four are", x.rule(4), 4);
    }

    @Says("0 HOUSES, 1 LAW, 2 PEOPLE, 3 MOVES, 4 EXPECTED. BAD.")
    static void ruleBounds() {
        EldestAge x = told("houses 7;law youngest;one aunt 1 1 1;one aunt 1 1 1;one aunt 1 1 1;move 1 1 0 0;move 1 1 0 0;expect 0 1 1 1 1;");
        rules(x, 7, 1, 3, 2, 1);
        due("rule -1", x.rule(-1), BAD);
        due("rule 5", x.rule(5), BAD);
    }

    @Says("Of a ONE: 0 KIND, 1 BORN, 2 his HOUSE as told, 3 the DAY he DIES (NONE). BAD.")
    static void oneBounds() {
        EldestAge x = told("one lodger 9 9 3;one plain 0 0 0 died 0 1;move 9 9 0 1;");
        int[][] due = {{4, day(9, 9), 3, NONE}, {0, 0, 0, 1}};
        for (int p = 0; p < 2; p++) {
            for (int what = 0; what < 4; what++) {
                due("one " + p + " " + what, x.one(p, what), due[p][what]);
            }
            due("one " + p + " -1", x.one(p, -1), BAD);
            due("one " + p + " 4", x.one(p, 4), BAD);
        }
        due("ONE -1", x.one(-1, 0), BAD);
        due("ONE 2", x.one(2, 0), BAD);
        due("ONE 9", x.one(9, 0), BAD);
        due("ONE 10", x.one(10, 0), BAD);
    }

    @Says("Of a MOVE: 0 DAY, 1 ONE, 2 HOUSE. BAD.")
    static void movedBounds() {
        EldestAge x = told("one plain 1 1 1;one plain 1 1 1;");
        due("MOVE 0 of none", x.moved(0, 0), BAD);
        x.move(LAST, 1, 3);
        int[] due = {LAST, 1, 3};
        for (int what = 0; what < 3; what++) {
            due("moved " + what, x.moved(0, what), due[what]);
        }
        due("what -1", x.moved(0, -1), BAD);
        due("what 3", x.moved(0, 3), BAD);
        due("MOVE -1", x.moved(-1, 0), BAD);
        due("MOVE 1", x.moved(1, 0), BAD);
        due("MOVE 12", x.moved(12, 0), BAD);
        x.undo(0);
        due("MOVE 0 of none again", x.moved(0, 0), BAD);
    }

    @Says("Of an EXPECTED BIRTH: 0 HOUSE, 1 from, 2 up to. BAD.")
    static void expectedBounds() {
        EldestAge x = new EldestAge();
        due("BIRTH 0 of none", x.expected(0, 0), BAD);
        x.expect(3, 0, LAST);
        int[] due = {3, 0, LAST};
        for (int what = 0; what < 3; what++) {
            due("expected " + what, x.expected(0, what), due[what]);
        }
        due("what -1", x.expected(0, -1), BAD);
        due("what 3", x.expected(0, 3), BAD);
        due("BIRTH -1", x.expected(-1, 0), BAD);
        due("BIRTH 1", x.expected(1, 0), BAD);
        due("BIRTH 4", x.expected(4, 0), BAD);
    }

    @Says("LAW becomes v (0 to 3): what it was. BAD.")
    static void lawBounds() {
        EldestAge x = new EldestAge();
        due("eldest at first", x.law(0), 0);
        due("3", x.law(3), 0);
        due("2", x.law(2), 3);
        due("1", x.law(1), 2);
        due("-1", x.law(-1), BAD);
        due("4", x.law(4), BAD);
        due("it stays", x.rule(1), 1);
        due("itself", x.law(1), 1);
    }

    @Says("LAW: 0 eldest (at first), 1 youngest, 2 sum, 3 mean.")
    static void laws() {
        EldestAge x = told("one plain 10 0 0;one plain 20 0 0;one plain 21 0 0;");
        int[] due = {40, 29, 99, 33};
        due("at first", x.number(0, day(50, 0)), 40);
        for (int v = 0; v < 4; v++) {
            x.law(v);
            due("law " + v, x.number(0, day(50, 0)), due[v]);
        }
        due("at first of a text", told("").rule(1), 0);
        due("at first of an object", new EldestAge().rule(1), 0);
    }

    @Says("A ONE more: his number. BAD; FULL.")
    static void bearBounds() {
        EldestAge x = told("houses 2;");
        due("kind -1", x.bear(-1, 0, 0), BAD);
        due("kind 5", x.bear(5, 0, 0), BAD);
        due("day -1", x.bear(0, -1, 0), BAD);
        due("day 36000", x.bear(0, 36000, 0), BAD);
        due("house -1", x.bear(0, 0, -1), BAD);
        due("house 2", x.bear(0, 0, 2), BAD);
        due("nobody came", x.rule(2), 0);
        for (int kind = 0; kind < 5; kind++) {
            due("kind " + kind, x.bear(kind, kind == 4 ? LAST : 0, kind % 2), kind);
            due("his kind", x.one(kind, 0), kind);
        }
        x.keep(0);
        for (int p = 5; p < 10; p++) {
            due("bear " + p, x.bear(0, p, 1), p);
        }
        due("full", x.bear(0, 0, 0), FULL);
        due("five again", x.back(0), 5);
        due("his number is the next", x.bear(0, 0, 0), 5);
    }

    @Says("A ONE DIES on a DAY: on which he did (NONE). BAD: also not behind that he is BORN.")
    static void dieBounds() {
        EldestAge x = told("one plain 10 5 0;one plain 0 0 0;one plain 99 359 0;one plain 99 358 0;one plain 5 5 0 died 6 6;");
        due("a day ahead", x.die(0, day(10, 4)), BAD);
        due("that day", x.die(0, day(10, 5)), BAD);
        due("none", x.one(0, 3), NONE);
        due("the day behind", x.die(0, day(10, 6)), NONE);
        due("later", x.die(0, LAST), day(10, 6));
        due("earlier again", x.die(0, day(50, 0)), LAST);
        due("refused: it stays", x.die(0, 0), BAD);
        due("it stays", x.one(0, 3), day(50, 0));
        due("DAY 0", x.die(1, 0), BAD);
        due("DAY 1", x.die(1, 1), NONE);
        due("who is born on the last day", x.die(2, LAST), BAD);
        due("a day ahead of the last", x.die(3, LAST), NONE);
        due("who died by a text", x.die(4, day(5, 6)), day(6, 6));
        due("DAY 36000", x.die(3, 36000), BAD);
        due("ONE 5", x.die(5, LAST), BAD);
        due("ONE -1", x.die(-1, LAST), BAD);
    }

    @Says("A MOVE more: how many there are.")
    static void moveBounds() {
        EldestAge x = told("houses 3;one plain 0 0 0;one plain 50 0 0 died 60 0;");
        due("day -1", x.move(-1, 0, 0), BAD);
        due("day 36000", x.move(36000, 0, 0), BAD);
        due("one -1", x.move(0, -1, 0), BAD);
        due("one 2", x.move(0, 2, 0), BAD);
        due("house -1", x.move(0, 0, -1), BAD);
        due("house 3", x.move(0, 0, 3), BAD);
        due("none came", x.rule(3), 0);
        due("who is not born yet", x.move(0, 1, 2), 1);
        due("to where he is", x.move(0, 0, 0), 2);
        due("who is dead", x.move(day(60, 0), 1, 1), 3);
        due("the last day, the last house", x.move(LAST, 0, 2), 4);
    }

    @Says("MOVES are the first n alone: how many there were. BAD (n above that, too).")
    static void undoBounds() {
        EldestAge x = told("one plain 0 0 0;");
        due("none of none", x.undo(0), 0);
        due("1 of none", x.undo(1), BAD);
        due("-1 of none", x.undo(-1), BAD);
        for (int m = 0; m < 12; m++) {
            x.move(10 * m, 0, m % 4);
        }
        due("13 of 12", x.undo(13), BAD);
        due("-1 of 12", x.undo(-1), BAD);
        due("12 of 12", x.undo(12), 12);
        due("he lives", x.lives(0, LAST), 3);
        due("11 of 12", x.undo(11), 12);
        due("he lives", x.lives(0, LAST), 2);
        due("12 of 11", x.undo(12), BAD);
        due("1 of 11", x.undo(1), 11);
        due("the first is left", x.moved(0, 0), 0);
        due("no second", x.moved(1, 0), BAD);
        due("0 of 1", x.undo(0), 1);
        due("none", x.rule(3), 0);
    }
}
