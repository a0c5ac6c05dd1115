/** Who lives where on a day, numbers of houses, letters and rounds. */
final class DayBounds extends Bounds {
    private DayBounds() {
    }

    @Says("A ONE LIVES from the DAY he is BORN up to the DAY ahead of that he DIES")
    static void livesFromTo() {
        EldestAge x = told("one plain 10 100 0 died 10 101;one plain 10 100 1 died 10 103;one plain 0 0 2;one plain 99 359 3;");
        int born = day(10, 100);
        int[] none = {born - 1, born + 1};
        for (int d : none) {
            due("lives " + d, x.lives(0, d), NONE);
            due("years " + d, x.years(0, d), NONE);
            due("number " + d, x.number(0, d), NONE);
        }
        due("his one day", x.lives(0, born), 0);
        due("his one day", x.years(0, born), 0);
        due("his one day", x.number(0, born), 0);
        int[] due = {NONE, 1, 1, 1, NONE};
        for (int i = 0; i < 5; i++) {
            due("of three days " + i, x.lives(1, born - 1 + i), due[i]);
        }
        due("the first day", x.lives(2, 0), 2);
        due("no day he dies: the last", x.lives(2, LAST), 2);
        due("ahead of the last", x.lives(3, LAST - 1), NONE);
        due("the last day alone", x.lives(3, LAST), 3);
    }

    @Says("in his HOUSE, behind MOVES of his up to that DAY (with it) in that of the last of these")
    static void movesUpToThatDay() {
        EldestAge x = told("one plain 0 0 0;one plain 0 0 3;move 10 0 0 1;move 10 0 0 2;move 10 0 1 0;move 99 359 0 3;");
        int on = day(10, 0);
        due("ahead of it", x.lives(0, on - 1), 0);
        due("with it, the last", x.lives(0, on), 2);
        due("behind it", x.lives(0, on + 1), 2);
        due("another one", x.lives(1, on - 1), 3);
        due("another one with it", x.lives(1, on), 0);
        due("ahead of the last day", x.lives(0, LAST - 1), 2);
        due("on the last day", x.lives(0, LAST), 3);
        due("the house as told stays", x.one(0, 2), 0);
        due("number with it", x.number(2, on), 10);
        due("number ahead of it", x.number(2, on - 1), NONE);
        EldestAge first = told("one plain 0 0 0;move 0 0 0 1;");
        due("on the first day", first.lives(0, 0), 1);
    }

    @Says("YEARS of a ONE on a DAY: how many whole ones from the DAY he was BORN on")
    static void wholeYears() {
        EldestAge x = told("one plain 10 100 0;one plain 0 359 0;one plain 0 0 0;");
        for (int years = 0; years < 89; years++) {
            int birthday = day(10 + years, 100);
            due("birthday " + years, x.years(0, birthday), years);
            due("the day ahead " + years, x.years(0, birthday - 1), years == 0 ? NONE : years - 1);
        }
        due("of the last day of a YEAR", x.years(1, day(1, 358)), 0);
        due("of the last day of a YEAR", x.years(1, day(1, 359)), 1);
        due("the most", x.years(2, LAST), 99);
        due("a day less", x.years(2, day(99, 0) - 1), 98);
    }

    @Says("YEARS of a ONE on a DAY. BAD; NONE: he does not LIVE then.")
    static void yearsRefused() {
        EldestAge x = told("one vain 10 100 0 died 20 50;");
        due("ahead", x.years(0, day(10, 99)), NONE);
        due("born", x.years(0, day(10, 100)), 0);
        due("his own, not what he tells", x.years(0, day(15, 100)), 5);
        due("the last", x.years(0, day(20, 49)), 9);
        due("dead", x.years(0, day(20, 50)), NONE);
        due("ONE 1", x.years(1, day(15, 0)), BAD);
        due("ONE -1", x.years(-1, day(15, 0)), BAD);
        due("DAY -1", x.years(0, -1), BAD);
        due("DAY 36000", x.years(0, 36000), BAD);
    }

    @Says("The HOUSE where a ONE LIVES on a DAY. BAD; NONE: he does not.")
    static void livesRefused() {
        EldestAge x = told("one lodger 10 100 3 died 20 50;move 5 0 0 2;move 30 0 0 1;");
        due("ahead, though he has moved", x.lives(0, day(10, 99)), NONE);
        due("born where he moved to", x.lives(0, day(10, 100)), 2);
        due("dead", x.lives(0, day(20, 50)), NONE);
        due("dead, though he moves", x.lives(0, day(30, 0)), NONE);
        due("ONE 1", x.lives(1, day(15, 0)), BAD);
        due("ONE -1", x.lives(-1, day(15, 0)), BAD);
        due("DAY -1", x.lives(0, -1), BAD);
        due("DAY 36000", x.lives(0, 36000), BAD);
    }

    @Says("2 vain: tells 3 years less than he has (0 at least)")
    static void vainOnesTell() {
        EldestAge x = told("one vain 10 0 0;one vain 10 0 1;one plain 12 0 1;");
        int[] tells = {0, 0, 0, 0, 1, 2};
        for (int years = 0; years < 6; years++) {
            due("of " + years, x.number(0, day(10 + years, 0)), tells[years]);
            due("a day ahead of " + (years + 1), x.number(0, day(11 + years, 0) - 1), tells[years]);
            due("he has " + years, x.years(0, day(10 + years, 0)), years);
        }
        due("the younger one tells more", x.number(1, day(15, 0)), 3);
        x.law(1);
        due("the elder one tells less", x.number(1, day(15, 0)), 2);
        x.law(2);
        due("not below 0 in a sum", x.number(1, day(12, 0)), 0);
        due("sum", x.number(1, day(13, 0)), 1);
    }

    @Says("3 double: counts as two")
    static void doublesCountTwice() {
        EldestAge x = told("one double 10 0 0;one plain 20 0 0;one double 10 0 1;");
        int[] both = {30, 20, 80, 26};
        int[] alone = {30, 30, 60, 30};
        for (int v = 0; v < 4; v++) {
            x.law(v);
            due("with another, law " + v, x.number(0, day(40, 0)), both[v]);
            due("alone, law " + v, x.number(1, day(40, 0)), alone[v]);
        }
        due("of 0 years", x.number(1, day(10, 0)), 0);
    }

    @Says("4 lodger: counts as nobody.")
    static void lodgersCountNot() {
        EldestAge x = told("one lodger 1 0 0;one plain 20 0 1;one lodger 1 0 1;one lodger 39 0 1;");
        for (int v = 0; v < 4; v++) {
            x.law(v);
            due("alone, law " + v, x.number(0, day(40, 0)), NONE);
            due("with another, law " + v, x.number(1, day(40, 0)), 20);
        }
        due("he lives there", x.lives(0, day(40, 0)), 0);
        due("they LIVE", x.later(1, day(1, 0), 1, 0), 2);
    }

    @Says("the greatest, the least, the sum, the mean (divided down), by LAW.")
    static void numbersByLaw() {
        EldestAge x = told("one plain 20 1 0;one plain 40 0 0;one plain 10 0 0;one plain 30 0 0;one plain 50 0 1;one plain 49 1 1;one plain 49 1 1;");
        int on = day(50, 0);
        int[][] due = {{40, 10, 99, 24}, {0, 0, 0, 0}};
        for (int v = 0; v < 4; v++) {
            x.law(v);
            due("house 0, law " + v, x.number(0, on), due[0][v]);
            due("house 1, law " + v, x.number(1, on), due[1][v]);
        }
        due("mean of 0, 1, 1", x.number(1, day(50, 1)), 0);
        EldestAge full = told("houses 1;law sum;" + times(10, "one double 0 0 0;"));
        due("ten doubles of 99", full.number(0, LAST), 1980);
        due("at 1980", full.at(1980, LAST), 1);
        full.law(3);
        due("their mean", full.number(0, LAST), 99);
    }

    @Says("None, where nobody counts.")
    static void noneWhereNobodyCounts() {
        EldestAge x = told("one plain 10 0 0 died 20 0;one lodger 5 0 1;one plain 10 0 2;move 15 0 1 3;move 15 0 2 3;");
        due("not born", x.number(0, day(10, 0) - 1), NONE);
        due("0 is a number", x.number(0, day(10, 0)), 0);
        due("dead", x.number(0, day(20, 0)), NONE);
        due("a lodger", x.number(1, day(10, 0)), NONE);
        due("gone", x.number(2, day(15, 0)), NONE);
        due("there", x.number(3, day(15, 0)), 5);
        for (int v = 0; v < 4; v++) {
            x.law(v);
            due("nobody ever, law " + v, x.number(1, LAST), NONE);
        }
    }

    @Says("NUMBER of a HOUSE on a DAY. BAD; NONE.")
    static void numberRefused() {
        EldestAge x = told("houses 2;one plain 0 0 1;");
        due("number", x.number(1, LAST), 99);
        due("none", x.number(0, LAST), NONE);
        due("house -1", x.number(-1, 0), BAD);
        due("house 2", x.number(2, 0), BAD);
        due("day -1", x.number(1, -1), BAD);
        due("day 36000", x.number(1, 36000), BAD);
    }

    @Says("HOUSES that have a NUMBER on a DAY (bits; n below 0: those without). BAD.")
    static void atBounds() {
        EldestAge x = told("houses 8;one plain 10 0 0;one plain 10 0 7;one plain 5 0 3;one lodger 5 0 4;");
        int on = day(10, 0);
        due("0", x.at(0, on), 1 + 128);
        due("5", x.at(5, on), 8);
        due("4", x.at(4, on), 0);
        due("below 0", x.at(-1, on), 255 - 1 - 128 - 8);
        due("as NONE", x.at(-4, on), 255 - 1 - 128 - 8);
        due("the least", x.at(Integer.MIN_VALUE, on), 255 - 1 - 128 - 8);
        due("the greatest", x.at(Integer.MAX_VALUE, on), 0);
        due("1000", x.at(1000, on), 0);
        due("nobody", x.at(-2, 0), 255);
        due("nobody has 0", x.at(0, 0), 0);
        due("day -1", x.at(0, -1), BAD);
        due("day 36000", x.at(0, 36000), BAD);
        due("day 36000 below 0", x.at(-1, 36000), BAD);
        EldestAge all = told("houses 2;one plain 10 0 0;one plain 10 0 1;");
        due("none is without", all.at(-1, on), 0);
    }

    @Says("HOUSES whose NUMBER another one has, too (bits). BAD.")
    static void twinsBounds() {
        EldestAge x = told("houses 8;one plain 10 0 0;one plain 10 0 7;one plain 5 0 3;one plain 6 0 4;one lodger 5 0 5;");
        due("two", x.twins(day(10, 0)), 1 + 128);
        due("those without are none", x.twins(0), 0);
        due("one alone", x.twins(day(5, 0)), 0);
        due("by a birthday", x.twins(day(6, 0)), 0);
        EldestAge all = told("houses 8;" + "one plain 1 0 0;one plain 1 0 1;one plain 1 0 2;one plain 1 0 3;"
            + "one plain 1 0 4;one plain 1 0 5;one plain 1 0 6;one plain 1 0 7;");
        due("all", all.twins(day(1, 0)), 255);
        EldestAge pairs = told("one plain 1 0 0;one plain 2 0 1;one plain 1 0 2;one plain 2 0 3;");
        due("two pairs", pairs.twins(day(2, 0)), 15);
        due("a pair", pairs.twins(day(1, 0)), 5);
        due("one house", told("houses 1;one plain 0 0 0;").twins(0), 0);
        due("day -1", x.twins(-1), BAD);
        due("day 36000", x.twins(36000), BAD);
    }

    @Says("The first DAY behind a DAY on which NUMBER of a HOUSE is another one (or there is one, is none).")
    static void changesBehindADay() {
        EldestAge x = told("one plain 10 100 0 died 12 50;one plain 11 200 0;one vain 20 0 1;move 30 7 1 2;");
        due("there is one", x.changes(0, 0), day(10, 100));
        due("from the day ahead", x.changes(0, day(10, 99)), day(10, 100));
        due("behind the day itself", x.changes(0, day(10, 100)), day(11, 100));
        due("the elder one alone", x.changes(0, day(11, 100)), day(12, 50));
        due("to the younger one's", x.number(0, day(12, 50)), 0);
        due("is none", x.changes(0, day(30, 0)), day(30, 7));
        due("is one there", x.changes(2, 0), day(30, 7));
        due("0 stays for four years", x.changes(1, day(20, 0)), day(24, 0));
        due("from the years behind", x.changes(1, day(22, 9)), day(24, 0));
        EldestAge gap = told("one plain 10 0 0 died 10 1;one plain 10 5 0;");
        due("is none", gap.changes(0, day(10, 0)), day(10, 1));
        due("is one again", gap.changes(0, day(10, 1)), day(10, 5));
        EldestAge swap = told("one plain 10 0 0;one plain 10 0 1;move 20 5 0 2;move 20 5 1 0;");
        due("one as great comes", swap.changes(0, day(20, 0)), day(21, 0));
        EldestAge same = told("one plain 10 0 0 died 20 0;one plain 10 9 0;");
        due("one as great is left", same.changes(0, day(19, 100)), day(20, 9));
        due("his number", same.number(0, day(20, 0)), 9);
        EldestAge lodger = told("one lodger 10 0 0;one lodger 12 0 0 died 20 0;");
        due("lodgers change nothing", lodger.changes(0, 0), NONE);
    }

    @Says("BAD; NONE: there is no such DAY.")
    static void changesOnNoDay() {
        EldestAge x = told("one plain 99 359 0;one plain 0 0 1 died 99 359;one plain 0 359 2;one plain 1 0 3;");
        due("born on the last day", x.changes(0, 0), LAST);
        due("born on the last day, from the day ahead", x.changes(0, LAST - 1), LAST);
        due("behind the last day", x.changes(0, LAST), NONE);
        due("dead on the last day", x.changes(1, day(99, 0)), LAST);
        due("a birthday on the last day", x.changes(2, day(98, 359)), LAST);
        due("behind it", x.changes(2, LAST), NONE);
        due("the last birthday", x.changes(3, day(99, 0) - 1), day(99, 0));
        due("behind the last birthday", x.changes(3, day(99, 0)), NONE);
        due("nobody ever", new EldestAge().changes(0, 0), NONE);
        due("house 4", x.changes(4, 0), BAD);
        due("house -1", x.changes(-1, 0), BAD);
        due("day -1", x.changes(0, -1), BAD);
        due("day 36000", x.changes(0, 36000), BAD);
    }

    @Says("HOUSES by NUMBERS, the greatest first, of several by numbers of HOUSES; those without at the end.")
    static void descendingOrder() {
        EldestAge x = told("houses 8;one plain 10 0 6;one plain 20 0 1;one plain 20 9 4;one plain 30 0 2;one plain 30 0 0;"
            + "one plain 50 0 5;one lodger 1 0 3;");
        int[] due = {6, 1, 4, 0, 2, 5, 3, 7};
        for (int i = 0; i < 8; i++) {
            due("descending " + i, x.descending(day(50, 0), i), due[i]);
            due("nobody " + i, x.descending(0, i), i);
        }
        EldestAge one = told("houses 1;");
        due("one house", one.descending(0, 0), 0);
        EldestAge last = told("houses 3;one plain 5 0 2;");
        due("0 is ahead of none", last.descending(day(5, 0), 0), 2);
        due("0 is ahead of none", last.descending(day(5, 0), 1), 0);
        due("0 is ahead of none", last.descending(day(5, 0), 2), 1);
    }

    @Says("The HOUSE that is i-th (0 on) in DESCENDING order on a DAY. BAD.")
    static void descendingBounds() {
        for (int houses = 1; houses <= 8; houses++) {
            EldestAge x = told("houses " + houses + ";");
            due("i -1", x.descending(0, -1), BAD);
            due("the last", x.descending(LAST, houses - 1), houses - 1);
            due("behind the last", x.descending(LAST, houses), BAD);
            due("day -1", x.descending(-1, 0), BAD);
            due("day 36000", x.descending(36000, 0), BAD);
        }
    }

    @Says("NUMBERS of all HOUSES on a DAY, summed, were LAW so. BAD.")
    static void allBounds() {
        EldestAge x = told("houses 8;one plain 10 0 0;one plain 20 0 0;one double 30 0 7;one vain 30 0 7;one lodger 1 0 3;");
        int on = day(40, 0);
        int[] due = {30 + 10, 20 + 7, 50 + 27, 25 + 9};
        for (int v = 0; v < 4; v++) {
            due("law " + v, x.all(on, v), due[v]);
            due("nobody, law " + v, x.all(0, v), 0);
        }
        due("LAW stays", x.rule(1), 0);
        x.law(2);
        due("by the law that is asked", x.all(on, 0), 40);
        due("law -1", x.all(on, -1), BAD);
        due("law 4", x.all(on, 4), BAD);
        due("day -1", x.all(-1, 0), BAD);
        due("day 36000", x.all(36000, 0), BAD);
        EldestAge most = told("houses 8;" + times(10, "one double 0 0 7;"));
        due("the most", most.all(LAST, 2), 1980);
        due("the first day", most.all(0, 2), 0);
    }

    @Says("MEANS the HOUSES that have it then; brought on another DAY: to those that have it then.")
    static void lettersMean() {
        EldestAge x = told("one plain 10 0 0;one plain 10 100 1;one plain 9 200 2;one plain 10 0 3 died 20 50;");
        int sent = day(20, 0);
        int brought = day(20, 100);
        int[] due = {1 + 4 + 8, 1 + 2 + 4, 8};
        int[] backwards = {1 + 2 + 4, 1 + 4 + 8, 2};
        int[] oneDay = {13, 13, 0};
        for (int what = 0; what < 3; what++) {
            due("letter " + what, x.letter(10, sent, brought, what), due[what]);
            due("letter back " + what, x.letter(10, brought, sent, what), backwards[what]);
            due("letter of one day " + what, x.letter(10, sent, sent, what), oneDay[what]);
            due("letter to nobody " + what, x.letter(77, sent, brought, what), 0);
        }
        due("from the first to the last day", x.letter(0, 0, LAST, 0), 0);
        due("those without have no number", x.letter(0, 0, 0, 1), 0);
        due("brought to a house that had none then", x.letter(0, day(9, 199), day(9, 200), 1), 4);
        due("meant a house that has none now", x.letter(9, day(20, 49) - 60, day(20, 50), 2), 8 + 1);
    }

    @Says("A LETTER to NUMBER n (0 to 999), sent on a DAY, brought on another one")
    static void letterBounds() {
        EldestAge x = told("houses 1;law sum;" + times(5, "one double 0 0 0;") + "one plain 0 0 0;");
        // Eleven heads: 990 in YEAR 90, 1001 in YEAR 91.
        due("990", x.letter(990, day(90, 0), day(90, 0), 0), 1);
        due("999", x.letter(999, day(90, 0), day(90, 0), 0), 0);
        due("1000", x.letter(1000, 0, 0, 0), BAD);
        due("1001, though there is a house", x.letter(1001, day(91, 0), day(91, 0), 0), BAD);
        due("0", x.letter(0, 0, 359, 2), 0);
        due("-1", x.letter(-1, 0, 0, 0), BAD);
        due("what 2", x.letter(0, 0, 360, 2), 1);
        due("what 3", x.letter(0, 0, 360, 3), BAD);
        due("what -1", x.letter(0, 0, 360, -1), BAD);
        due("sent on -1", x.letter(0, -1, 0, 0), BAD);
        due("sent on 36000", x.letter(0, 36000, 0, 1), BAD);
        due("brought on -1", x.letter(0, 0, -1, 0), BAD);
        due("brought on 36000", x.letter(0, 0, 36000, 0), BAD);
        due("the last day", x.letter(0, LAST, LAST, 0), 0);
        EldestAge y = told("houses 1;law sum;" + times(3, "one double 0 0 0;") + times(3, "one plain 0 0 0;"));
        due("nine heads: 999 in no year, 891 in the last", y.letter(891, LAST, LAST, 0), 1);
        EldestAge z = told("houses 1;law sum;" + times(10, "one double 0 0 0;") + "move 0 0 0 0;");
        due("twenty: 980", z.letter(980, day(49, 0), day(49, 359), 2), 0);
    }

    private static void round(EldestAge x, int from, int... due) {
        for (int i = 0; i < 8; i++) {
            due("round from " + from + ", " + i, x.round(from, i), i < due.length ? due[i] : NONE);
        }
    }

    @Says("that with the greatest NUMBER on that DAY of those where he has not been, of several the least")
    static void roundsGreatestFirst() {
        EldestAge x = told("one plain 10 0 2;one plain 10 101 0;one plain 15 0 3;one plain 15 0 1;");
        round(x, day(20, 100), 2, 0, 1, 3);
        // Numbers change as he walks: on the second day 3 has more than 1.
        EldestAge y = told("one plain 10 0 0;one plain 12 1 3;one plain 12 2 1;");
        round(y, day(20, 0), 0, 3, 1);
        round(y, day(20, 2), 0, 1, 3);
        EldestAge z = told("houses 8;one plain 1 0 7;one plain 1 0 6;one plain 1 0 5;one plain 1 0 4;one plain 1 0 3;"
            + "one plain 1 0 2;one plain 1 0 1;one plain 1 0 0;");
        round(z, day(1, 0), 0, 1, 2, 3, 4, 5, 6, 7);
        round(z, day(50, 359), 0, 1, 2, 3, 4, 5, 6, 7);
    }

    @Says("it ends with the first DAY on which all of these are without NUMBER")
    static void roundsEndWithoutNumber() {
        EldestAge x = told("one plain 10 0 0;one plain 20 2 1;one lodger 1 0 2;");
        round(x, day(20, 0), 0);
        round(x, day(20, 1), 0, 1);
        round(x, day(10, 0) - 1);
        round(x, 0);
        // He who would be the next has died, has gone to where the postman has been.
        EldestAge dies = told("one plain 10 0 0;one plain 11 0 1 died 20 1;one plain 12 0 2;");
        round(dies, day(20, 0), 0, 2);
        round(dies, day(19, 359), 0, 1, 2);
        EldestAge goes = told("one plain 10 0 0;one plain 11 0 1;move 20 1 1 0;");
        round(goes, day(20, 0), 0);
        round(goes, day(19, 359), 0, 1);
    }

    @Says("or there are none, or there is no such DAY.")
    static void roundsEndAtTheLast() {
        EldestAge x = told("houses 2;one plain 10 0 0;one plain 10 0 1;one plain 10 0 1;");
        round(x, day(20, 0), 0, 1);
        round(x, LAST - 2, 0, 1);
        round(x, LAST - 1, 0, 1);
        round(x, LAST, 0);
        EldestAge one = told("houses 1;one plain 10 0 0;");
        round(one, day(10, 0), 0);
        round(one, LAST, 0);
        round(new EldestAge(), LAST);
        round(new EldestAge(), 0);
    }

    @Says("A ROUND: the i-th HOUSE (0 on). BAD (i 0 to 7); NONE: it has ended.")
    static void roundBounds() {
        EldestAge x = told("houses 1;one plain 0 0 0;");
        due("0", x.round(0, 0), 0);
        due("1", x.round(0, 1), NONE);
        due("7", x.round(0, 7), NONE);
        due("8", x.round(0, 8), BAD);
        due("-1", x.round(0, -1), BAD);
        due("day -1", x.round(-1, 0), BAD);
        due("day 36000", x.round(36000, 0), BAD);
        due("day 36000, 8", x.round(36000, 8), BAD);
        EldestAge eight = told("houses 8;one plain 1 0 0;one plain 1 0 1;one plain 1 0 2;one plain 1 0 3;"
            + "one plain 1 0 4;one plain 1 0 5;one plain 1 0 6;one plain 1 0 7;");
        due("7 of eight", eight.round(day(1, 0), 7), 7);
        due("7 of eight, whose day is the last", eight.round(LAST - 7, 7), 7);
        due("7 of eight, whose day is none", eight.round(LAST - 6, 7), NONE);
        due("6 of eight, whose day is the last", eight.round(LAST - 6, 6), 6);
    }
}
