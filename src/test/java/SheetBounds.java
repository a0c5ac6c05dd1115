/** Images, sheets, moves that are read of them, what is counted. */
final class SheetBounds extends Bounds {
    private SheetBounds() {
    }

    @Says("IMAGE k (0, 1) is PEOPLE, MOVES, EXPECTED, the LAW: whether there was one (1, 0). BAD.")
    static void keepBounds() {
        EldestAge x = new EldestAge();
        due("-1", x.keep(-1), BAD);
        due("2", x.keep(2), BAD);
        due("none is", x.count(2), 0);
        due("1", x.keep(1), 0);
        due("1 again", x.keep(1), 1);
        due("one is", x.count(2), 1);
        due("0", x.keep(0), 0);
        due("0 again", x.keep(0), 1);
        due("two are", x.count(2), 2);
        // The second time it is what there is then.
        x.bear(0, 0, 0);
        due("0 anew", x.keep(0), 1);
        due("back to none", x.back(1), 0);
        due("back to one", x.back(0), 1);
        x.street();
        due("a text takes them away", x.keep(0), 0);
    }

    @Says("All is as IMAGE k: how many PEOPLE. BAD; STATE: there is none.")
    static void backBounds() {
        EldestAge x = told("houses 8;law youngest;one aunt 1 1 7;one plain 2 2 6 died 9 9;move 5 5 0 3;expect 7 1 1 2 2;");
        due("no IMAGE 0", x.back(0), STATE);
        due("no IMAGE 1", x.back(1), STATE);
        due("-1", x.back(-1), BAD);
        due("2", x.back(2), BAD);
        x.keep(1);
        due("still no IMAGE 0", x.back(0), STATE);
        x.law(3);
        x.bear(4, 3, 3);
        x.die(0, LAST);
        x.die(1, LAST);
        x.undo(0);
        x.move(0, 1, 0);
        x.move(1, 1, 1);
        x.expect(0, 0, 0);
        x.expect(1, 0, 0);
        due("back", x.back(1), 2);
        asItWas(x);
        // The IMAGE stays, whatever is changed behind it.
        x.die(0, day(50, 0));
        x.undo(0);
        x.move(7, 1, 7);
        due("back again", x.back(1), 2);
        asItWas(x);
    }

    private static void asItWas(EldestAge x) {
        int[] rules = {8, 1, 2, 1, 1};
        for (int what = 0; what < 5; what++) {
            due("rule " + what, x.rule(what), rules[what]);
        }
        due("the DAY he DIES", x.one(0, 3), NONE);
        due("the DAY he DIES", x.one(1, 3), day(9, 9));
        int[] moved = {day(5, 5), 0, 3};
        int[] expected = {7, day(1, 1), day(2, 2)};
        for (int what = 0; what < 3; what++) {
            due("moved " + what, x.moved(0, what), moved[what]);
            due("expected " + what, x.expected(0, what), expected[what]);
        }
    }

    @Says("All is as IMAGE k")
    static void nobodyIsLeftBehindAnImage() {
        String few = "one plain 1 0 2;one aunt 20 0 1;";
        EldestAge x = told(few);
        x.keep(0);
        for (int i = 0; i < 4; i++) {
            x.bear(i, 0, i % 2);
            x.move(0, 0, 3);
            x.expect(0, 0, 360);
        }
        due("back to fewer", x.back(0), 2);
        alike("back to fewer", x, told(few));
        EldestAge y = new EldestAge();
        y.keep(1);
        y.bear(0, 0, 0);
        y.expect(0, 0, 0);
        due("back to none", y.back(1), 0);
        alike("back to none", y, new EldestAge());
    }

    @Says("All is as IMAGE k")
    static void whatIsNoPartOfAnImage() {
        EldestAge x = told("one plain 0 0 0;");
        x.keep(0);
        x.see(0, 0, 1);
        x.see(0, 0, 1);
        x.want(0, 5);
        x.sheet(0, 0, 7);
        x.read(0, 1, 0, 1);
        Check.feed(x, "$");
        x.street();
        Check.feed(x, "law");
        due("back", x.back(0), 1);
        int[] counts = {2, 1, 1, 3, 7};
        for (int what = 0; what < 5; what++) {
            due("count " + what, x.count(what), counts[what]);
        }
        due("torn", x.torn(), 3);
        due("fault", x.fault(), 1);
        due("lie", x.lie(), 0);
    }

    @Says("A SHEET is a new row of CELLS 0: 1. BAD: also n above 40; -14 (SIZE): n below 0.")
    static void sheetBounds() {
        EldestAge x = told("one plain 0 0 0;");
        due("n 41", x.sheet(0, 0, 41), BAD);
        due("n -1", x.sheet(0, 0, -1), -14);
        due("far below", x.sheet(0, 2, Integer.MIN_VALUE), -14);
        due("far above", x.sheet(0, 2, Integer.MAX_VALUE), BAD);
        due("lane 3", x.sheet(0, 3, 1), BAD);
        due("lane -1", x.sheet(0, -1, 1), BAD);
        due("sheet 4", x.sheet(4, 0, 1), BAD);
        due("sheet -1", x.sheet(-1, 0, 1), BAD);
        due("lane 3, below 0", x.sheet(0, 3, -1), BAD);
        due("sheet 4, below 0", x.sheet(4, 0, -1), BAD);
        due("still nothing", x.count(4), NONE);
        due("n 0", x.sheet(0, 0, 0), 1);
        due("no CELLS are not nothing", x.count(4), 0);
        due("no CELL", x.lay(0, 0, 0), -12);
        due("n 40", x.sheet(0, 2, 40), 1);
        due("the last CELL", x.lay(0, 39, 3), 1);
        due("refused: it stays", x.sheet(0, 0, -1), -14);
        due("refused: it stays", x.sheet(0, 0, 41), BAD);
        due("40 CELLS", x.count(4), 40);
        due("of its lane", x.read(0, 2, 37, 1), 1);
        due("the last CELL stays", x.moved(0, 2), 3);
        for (int k = 0; k < 4; k++) {
            for (int lane = 0; lane < 3; lane++) {
                due("sheet " + k + " " + lane, x.sheet(k, lane, 40), 1);
            }
        }
    }

    @Says("with 0 to 40 CELLS, or nothing (at first).")
    static void noneTo40CellsOrNothing() {
        EldestAge x = new EldestAge();
        for (int k = 0; k < 4; k++) {
            due("nothing " + k, x.lay(k, 0, 0), -11);
            due("no CELLS " + k, x.sheet(k, k % 3, 0), 1);
            due("INDEX " + k, x.lay(k, 0, 0), -12);
            due("40 CELLS " + k, x.sheet(k, k % 3, 40), 1);
            due("the last " + k, x.lay(k, 39, 0), 1);
            due("behind it " + k, x.lay(k, 40, 0), -12);
            due("41 CELLS " + k, x.sheet(k, k % 3, 41), BAD);
        }
    }

    @Says("A SHEET is a new row of CELLS 0")
    static void newCellsAre0() {
        EldestAge x = told("one plain 0 0 0;");
        for (int lane = 0; lane < 3; lane++) {
            x.sheet(0, lane, 40);
            for (int i = 0; i < 40; i++) {
                x.lay(0, i, 1);
            }
            due("anew", x.sheet(0, lane, 40), 1);
            x.undo(0);
            due("all are 0", x.read(0, lane, 0, 12), 12);
            due("the last ones", x.read(0, lane, 37, 1), -20);
            x.undo(11);
            due("the last ones", x.read(0, lane, 37, 1), 1);
            for (int m = 0; m < 12; m++) {
                due("DAY " + m, x.moved(m, 0), 0);
                due("HOUSE " + m, x.moved(m, 2), 0);
            }
        }
        x.undo(0);
        // A smaller one, then a greater one: what lay behind is gone, too.
        x.sheet(1, 0, 6);
        x.lay(1, 5, 3);
        x.sheet(1, 0, 1);
        x.sheet(1, 0, 6);
        due("read", x.read(1, 0, 3, 1), 1);
        due("HOUSE", x.moved(0, 2), 0);
    }

    @Says("CELL i of a SHEET becomes v (its lowest bits): 1.")
    static void lowestBits() {
        EldestAge x = told("one plain 0 0 0;");
        int[][] fits = {
            {0, 127, 127}, {0, 256, 0}, {0, 256 + 5, 5}, {0, 5 - 256, 5}, {0, 0x7fffff05, 5}, {0, 0x80000005, 5}, {0, 128 + 256 * 3 - 127, 1},
            {1, 32767, 32767}, {1, 65536, 0}, {1, 65536 + 300, 300}, {1, 300 - 65536, 300}, {1, 0x7fff0007, 7}, {1, 256, 256},
            {2, 35999, LAST}, {2, 32768, 32768}, {2, 256, 256}};
        for (int[] f : fits) {
            x.undo(0);
            x.sheet(0, f[0], 3);
            due("lay " + f[1], x.lay(0, 0, f[1]), 1);
            due("read " + f[1], x.read(0, f[0], 0, 1), 1);
            due("CELL of " + f[1], x.moved(0, 0), f[2]);
        }
        // With a sign: what is above is below 0, no DAY; all the bits of an INT are kept.
        int[][] none = {{0, 128}, {0, 255}, {0, -1}, {0, 256 + 200}, {1, 32768}, {1, 35999}, {1, 65535}, {1, -1},
            {2, 36000}, {2, -1}, {2, 65536}, {2, Integer.MAX_VALUE}, {2, Integer.MIN_VALUE}};
        x.undo(0);
        for (int[] f : none) {
            x.sheet(0, f[0], 3);
            due("lay " + f[1], x.lay(0, 0, f[1]), 1);
            due("read " + f[1], x.read(0, f[0], 0, 1), -20);
        }
        due("none came", x.rule(3), 0);
    }

    @Says("BAD: k; -10 less the FAULT: NULL, INDEX.")
    static void layBounds() {
        EldestAge x = new EldestAge();
        due("sheet -1", x.lay(-1, 0, 0), BAD);
        due("sheet 4", x.lay(4, 0, 0), BAD);
        for (int k = 0; k < 4; k++) {
            due("nothing " + k, x.lay(k, 0, 0), -11);
            due("nothing, below " + k, x.lay(k, -1, 0), -11);
        }
        for (int n : new int[] {0, 1, 40}) {
            x.sheet(3, n % 3, n);
            due("CELL -1 of " + n, x.lay(3, -1, 0), -12);
            due("CELL n of " + n, x.lay(3, n, 0), -12);
            for (int far : FAR) {
                due("CELL " + far, x.lay(3, far, 0), -12);
            }
            if (n > 0) {
                due("CELL 0 of " + n, x.lay(3, 0, 0), 1);
                due("CELL n - 1 of " + n, x.lay(3, n - 1, 0), 1);
            }
        }
        due("its FAULTS are not asked by torn()", x.torn(), 0);
    }

    /** A SHEET 0 of a lane with MOVES of ONE 0, DAYS 1 on, HOUSES 1 and 2 by turns. */
    private static EldestAge sheet(int lane, int cells) {
        EldestAge x = told("one plain 0 0 0;");
        x.sheet(0, lane, cells);
        for (int i = 0; i + 2 < cells; i += 3) {
            x.lay(0, i, 1 + i / 3);
            x.lay(0, i + 2, 1 + i / 3 % 2);
        }
        return x;
    }

    private static void read(EldestAge x, int lane, int f, int n, int answer, int torn, int moves) {
        String call = "read lane " + lane + " from " + f + ", " + n;
        due(call, x.read(0, lane, f, n), answer);
        due(call + ": torn", x.torn(), torn);
        due(call + ": moves", x.rule(3), moves);
    }

    @Says("three CELLS each from CELL f on, one behind another as by move(): how many came.")
    static void threeCellsEach() {
        for (int lane = 0; lane < 3; lane++) {
            EldestAge x = sheet(lane, 9);
            read(x, lane, 0, 3, 3, 0, 3);
            for (int m = 0; m < 3; m++) {
                due("DAY " + m, x.moved(m, 0), 1 + m);
                due("ONE " + m, x.moved(m, 1), 0);
                due("HOUSE " + m, x.moved(m, 2), 1 + m % 2);
            }
            x.undo(0);
            read(x, lane, 3, 2, 2, 0, 2);
            due("from CELL 3 on", x.moved(0, 0), 2);
            x.undo(0);
            read(x, lane, 6, 1, 1, 0, 1);
            read(x, lane, 6, 1, 1, 0, 2);
        }
        // From a CELL that is not a multiple of three.
        EldestAge y = sheet(2, 9);
        y.lay(0, 1, 5);
        y.lay(0, 2, 0);
        y.lay(0, 3, 2);
        read(y, 2, 1, 1, 1, 0, 1);
        due("its DAY", y.moved(0, 0), 5);
        due("its HOUSE", y.moved(0, 2), 2);
    }

    @Says("n (0 to 13) MOVES (DAY, ONE, HOUSE) are read of a SHEET taken as of a lane")
    static void readBounds() {
        EldestAge x = sheet(0, 40);
        due("n -1", x.read(0, 0, 0, -1), BAD);
        due("n 14", x.read(0, 0, 0, 14), BAD);
        due("lane -1", x.read(0, -1, 0, 1), BAD);
        due("lane 3", x.read(0, 3, 0, 1), BAD);
        due("sheet -1", x.read(-1, 0, 0, 1), BAD);
        due("sheet 4", x.read(4, 0, 0, 1), BAD);
        due("n 0 of no such sheet", x.read(4, 0, 0, 0), BAD);
        due("n 0 of no such lane", x.read(0, 3, 0, 0), BAD);
        due("none came", x.rule(3), 0);
        read(x, 0, 0, 12, 12, 0, 12);
        x.undo(0);
        due("n 13: the last is too many", x.read(0, 0, 0, 13), -32);
        due("then none came", x.rule(3), 0);
        due("n 13 from CELL 1 on", x.read(0, 0, 1, 13), -20);
        // Of 13 the last is not whole: twelve come.
        EldestAge y = sheet(0, 38);
        read(y, 0, 0, 13, 12, 2, 12);
    }

    @Says("What the machine refuses: those that were whole ahead come")
    static void thoseThatWereWholeCome() {
        for (int cells = 0; cells <= 9; cells++) {
            EldestAge x = sheet(1, cells);
            int whole = cells / 3;
            read(x, 1, 0, 3, whole, whole == 3 ? 0 : 2, whole);
            x.undo(0);
            read(x, 1, 0, whole, whole, 0, whole);
            x.undo(0);
            read(x, 1, 0, whole + 1, whole, 2, whole);
        }
        EldestAge x = sheet(2, 9);
        for (int f : new int[] {-1, -2, -3, 9, 10, 8, 7, Integer.MIN_VALUE, Integer.MAX_VALUE, Integer.MAX_VALUE - 1, Integer.MAX_VALUE - 2}) {
            read(x, 2, f, 13, 0, 2, 0);
        }
        read(x, 2, 6, 13, 1, 2, 1);
    }

    @Says("1 NULL (nothing), 2 INDEX, 3 CAST (another lane), 4 SIZE (below 0).")
    static void faultsOfTheMachine() {
        EldestAge x = told("one plain 0 0 0;");
        for (int lane = 0; lane < 3; lane++) {
            read(x, lane, 0, 1, 0, 1, 0);
            read(x, lane, -1, 13, 0, 1, 0);
        }
        for (int of = 0; of < 3; of++) {
            x.sheet(0, of, 3);
            for (int lane = 0; lane < 3; lane++) {
                read(x, lane, 0, 1, lane == of ? 1 : 0, lane == of ? 0 : 3, lane == of ? 1 : 0);
                read(x, lane, 0, 0, 0, 0, lane == of ? 1 : 0);
                x.undo(0);
                // Another lane is met ahead of the CELL.
                read(x, lane, 99, 1, 0, lane == of ? 2 : 3, 0);
            }
        }
        x.sheet(0, 1, 0);
        read(x, 1, 0, 1, 0, 2, 0);
        read(x, 2, 0, 1, 0, 3, 0);
        due("SIZE", x.sheet(0, 1, -1), -14);
        due("torn stays", x.torn(), 3);
    }

    @Says("of n 0: 0, no FAULT, whatever the SHEET is")
    static void readOfNone() {
        EldestAge x = told("one plain 0 0 0;");
        for (int f : new int[] {0, -1, 40, Integer.MIN_VALUE, Integer.MAX_VALUE}) {
            read(x, 0, 0, 1, 0, 1, 0);
            read(x, 0, f, 0, 0, 0, 0);
            read(x, 2, f, 0, 0, 0, 0);
        }
        x.sheet(0, 1, 3);
        for (int lane = 0; lane < 3; lane++) {
            for (int f : new int[] {0, -1, 3, 40}) {
                x.read(0, 0, 0, 1);
                due("a FAULT ahead", x.torn(), 3);
                read(x, lane, f, 0, 0, 0, 0);
            }
        }
    }

    @Says("-20 less i (0 on): MOVE i, whole, is refused by move() (in whichever way): then none came; the first met.")
    static void refusedByMove() {
        int[][] cells = {{36000, 0, 0}, {-1, 0, 0}, {50, 1, 0}, {50, -1, 0}, {50, 0, 4}, {50, 0, -1}, {0, 0, 0}};
        for (int[] bad : cells) {
            for (int i = 0; i < 4; i++) {
                EldestAge x = sheet(2, 14);
                x.move(1, 0, 3);
                for (int c = 0; c < 3; c++) {
                    x.lay(0, 3 * i + c, bad[c]);
                }
                due("MOVE " + i, x.read(0, 2, 0, 4), -20 - i);
                due("none came", x.rule(3), 1);
                due("what was ahead stays", x.moved(0, 2), 3);
                due("one less", x.read(0, 2, 0, i), i);
            }
        }
        // Too early by that ahead of the same reading; refused ahead of what is not whole, and the other way.
        EldestAge y = sheet(2, 8);
        y.lay(0, 0, 9);
        due("ahead of MOVE 0", y.read(0, 2, 0, 2), -21);
        due("ahead of the FAULT", y.read(0, 2, 0, 3), -21);
        due("none came", y.rule(3), 0);
        y.lay(0, 3, 9);
        read(y, 2, 0, 3, 2, 2, 2);
    }

    @Says("MOVE i, whole, is refused by move() (in whichever way)")
    static void refusedForThereIsNoRoom() {
        for (int room = 0; room <= 12; room++) {
            EldestAge x = sheet(1, 40);
            for (int m = room; m < 12; m++) {
                x.move(0, 0, 3);
            }
            due("one too many for " + room, x.read(0, 1, 0, room + 1), -20 - room);
            due("none came", x.rule(3), 12 - room);
            read(x, 1, 0, room, room, 0, 12);
        }
        // MOVE 12 of thirteen would be one too many, but is not whole.
        EldestAge y = sheet(1, 38);
        read(y, 1, 0, 13, 12, 2, 12);
        y.undo(1);
        due("MOVE 11 has no room", y.read(0, 1, 0, 13), -31);
    }

    @Says("The FAULT of the latest read() that answered 0 or more; 0 (one that is refused leaves it).")
    static void tornBounds() {
        EldestAge x = told("one plain 0 0 0;");
        due("at first", x.torn(), 0);
        due("BAD", x.read(0, 3, 0, 1), BAD);
        due("still", x.torn(), 0);
        read(x, 0, 0, 1, 0, 1, 0);
        due("BAD", x.read(0, 0, 0, 14), BAD);
        due("it is left", x.torn(), 1);
        x.sheet(0, 0, 4);
        due("sheet() leaves it", x.torn(), 1);
        x.lay(0, 9, 9);
        due("lay() leaves it", x.torn(), 1);
        read(x, 0, 0, 2, 1, 2, 1);
        x.lay(0, 2, 99);
        due("refused by move()", x.read(0, 0, 0, 1), -20);
        due("it is left", x.torn(), 2);
        read(x, 1, 0, 1, 0, 3, 1);
        due("refused by move()", x.read(0, 0, 0, 1), -20);
        due("it is left", x.torn(), 3);
        x.lay(0, 2, 0);
        read(x, 0, 0, 1, 1, 0, 2);
        x.read(0, 1, 0, 1);
        x.street();
        due("a text leaves it", x.torn(), 3);
    }

    @Says("0 SEEN, 1 WANTS, 2 IMAGES, 3 bytes on THE TAPE, 4 CELLS of SHEET 0 (NONE: nothing). BAD.")
    static void countBounds() {
        EldestAge x = new EldestAge();
        due("-1", x.count(-1), BAD);
        due("5", x.count(5), BAD);
        int[] first = {0, 0, 0, 0, NONE};
        for (int what = 0; what < 5; what++) {
            due("at first " + what, x.count(what), first[what]);
        }
        for (int i = 0; i < 8; i++) {
            x.see(0, 0, 0);
            due("SEEN", x.count(0), i + 1);
        }
        for (int i = 0; i < 4; i++) {
            x.want(0, 0);
            due("WANTS", x.count(1), i + 1);
        }
        x.keep(1);
        due("one IMAGE", x.count(2), 1);
        x.keep(1);
        due("one IMAGE", x.count(2), 1);
        x.keep(0);
        due("two IMAGES", x.count(2), 2);
        for (int i = 1; i <= 50; i++) {
            x.feed(0);
            due("bytes", x.count(3), 8 * i);
        }
        x.end(1);
        due("a byte", x.count(3), 1);
        x.sheet(1, 0, 9);
        due("of SHEET 0", x.count(4), NONE);
        for (int n : new int[] {0, 1, 40}) {
            x.sheet(0, 0, n);
            due("CELLS", x.count(4), n);
        }
        due("SEEN are left", x.count(0), 8);
        due("WANTS are left", x.count(1), 4);
    }
}
