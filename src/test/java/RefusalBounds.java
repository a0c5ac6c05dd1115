import java.util.ArrayList;
import java.util.List;

/** What every refusal answers, and that it leaves all as it was. */
final class RefusalBounds extends Bounds {
    private RefusalBounds() {
    }

    @Says("An object is used for at most 512 calls after it has been made")
    static void the512thCall() {
        EldestAge x = new EldestAge();
        due("call 1", x.bear(0, 0, 3), 0);
        for (int call = 2; call <= 510; call += 3) {
            int d = call * 60;
            due("call " + call, x.number(3, d), d / 360);
            due("call " + (call + 1), x.move(d, 0, 3), 1);
            due("call " + (call + 2), x.undo(0), 1);
        }
        due("call 512", x.changes(3, 35639), 35640);
    }

    @Says("BAD -1 (a number is not as told, there is no such HOUSE, ONE, DAY, IMAGE, SHEET)")
    static void noSuchHouse() {
        for (int houses : new int[] {1, 4, 8}) {
            EldestAge x = told("houses " + houses + ";one plain 0 0 0;");
            int most = houses - 1;
            outside("bear house", x, 0, most, BAD, (y, v) -> y.bear(0, 0, v));
            outside("move house", x, 0, most, BAD, (y, v) -> y.move(0, 0, v));
            outside("number house", x, 0, most, BAD, (y, v) -> y.number(v, 0));
            outside("changes house", x, 0, most, BAD, (y, v) -> y.changes(v, 0));
            outside("descending i", x, 0, most, BAD, (y, v) -> y.descending(0, v));
            outside("want house", x, 0, most, BAD, (y, v) -> y.want(v, 0));
            outside("expect house", x, 0, most, BAD, (y, v) -> y.expect(v, 0, 0));
            outside("can house", x, 0, most, BAD, (y, v) -> y.can(v, 0, 0));
            outside("see house", x, 0, most, BAD, (y, v) -> y.see(v, 0, 0));
            due("the last number", x.number(most, 0), houses == 1 ? 0 : NONE);
            due("the last changes", x.changes(most, 0), houses == 1 ? 360 : NONE);
            due("the last descending", x.descending(0, most), most);
            due("the last can", x.can(most, 0, 0), houses == 1 ? 0 : NONE);
            due("the last bear", x.bear(0, 0, most), 1);
            due("the last move", x.move(0, 0, most), 1);
            due("the last want", x.want(most, 0), 1);
            due("the last expect", x.expect(most, 0, 0), 1);
            due("the last see", x.see(most, 0, 0), 1);
        }
    }

    @Says("BAD -1 (a number is not as told, there is no such HOUSE, ONE, DAY, IMAGE, SHEET)")
    static void noSuchOne() {
        for (int people : new int[] {0, 1, 10}) {
            EldestAge x = told(times(people, "one aunt 0 0 0;"));
            int most = people - 1;
            outside("one p", x, 0, most, BAD, (y, v) -> y.one(v, 1));
            outside("die p", x, 0, most, BAD, (y, v) -> y.die(v, LAST));
            outside("move p", x, 0, most, BAD, (y, v) -> y.move(0, v, 0));
            outside("years p", x, 0, most, BAD, (y, v) -> y.years(v, 0));
            outside("lives p", x, 0, most, BAD, (y, v) -> y.lives(v, 0));
            outside("born p", x, 0, most, BAD, (y, v) -> y.born(v, 0));
            for (int p : new int[] {-1, people, 10}) {
                due("fetch of ONE " + p, x.fetch(0, false, 10 + p), BAD);
            }
            if (people > 0) {
                due("the last one", x.one(most, 1), 0);
                due("the last years", x.years(most, 0), 0);
                due("the last lives", x.lives(most, 0), 0);
                due("the last born", x.born(most, 0), 100);
                due("the last move", x.move(0, most, 0), 1);
                due("the last fetch", x.fetch(0, false, 10 + most), people > 4 ? STATE : 0);
                due("the last die", x.die(most, LAST), NONE);
            }
        }
    }

    @Says("BAD -1 (a number is not as told, there is no such HOUSE, ONE, DAY, IMAGE, SHEET)")
    static void noSuchDay() {
        EldestAge x = told("one aunt 0 0 0;");
        outside("bear day", x, 0, LAST, BAD, (y, v) -> y.bear(0, v, 0));
        outside("die day", x, 1, LAST, BAD, (y, v) -> y.die(0, v));
        outside("move day", x, 0, LAST, BAD, (y, v) -> y.move(v, 0, 0));
        outside("years day", x, 0, LAST, BAD, (y, v) -> y.years(0, v));
        outside("lives day", x, 0, LAST, BAD, (y, v) -> y.lives(0, v));
        outside("number day", x, 0, LAST, BAD, (y, v) -> y.number(0, v));
        outside("at day", x, 0, LAST, BAD, (y, v) -> y.at(0, v));
        outside("at day, without", x, 0, LAST, BAD, (y, v) -> y.at(-1, v));
        outside("twins day", x, 0, LAST, BAD, (y, v) -> y.twins(v));
        outside("changes day", x, 0, LAST, BAD, (y, v) -> y.changes(0, v));
        outside("descending day", x, 0, LAST, BAD, (y, v) -> y.descending(v, 0));
        outside("all day", x, 0, LAST, BAD, (y, v) -> y.all(v, 0));
        outside("letter sent", x, 0, LAST, BAD, (y, v) -> y.letter(0, v, 0, 0));
        outside("letter brought", x, 0, LAST, BAD, (y, v) -> y.letter(0, 0, v, 0));
        outside("round day", x, 0, LAST, BAD, (y, v) -> y.round(v, 0));
        outside("fetch day", x, 0, LAST, BAD, (y, v) -> y.fetch(v, false, 0));
        outside("fetch day of her", x, 0, LAST, BAD, (y, v) -> y.fetch(v, false, 10));
        outside("expect from", x, 0, LAST, BAD, (y, v) -> y.expect(0, v, LAST));
        outside("expect to", x, 0, LAST, BAD, (y, v) -> y.expect(0, 0, v));
        outside("expect both", x, 0, LAST, BAD, (y, v) -> y.expect(0, v, v));
        outside("can day", x, 0, LAST, BAD, (y, v) -> y.can(0, v, 2));
        outside("see day", x, 0, LAST, BAD, (y, v) -> y.see(0, v, 0));
        outside("later day", x, 0, LAST, BAD, (y, v) -> y.later(1, v, 1, 0));
    }

    @Says("BAD -1 (a number is not as told, there is no such HOUSE, ONE, DAY, IMAGE, SHEET)")
    static void noSuchImageOrSheet() {
        EldestAge x = new EldestAge();
        outside("keep", x, 0, 1, BAD, (y, v) -> y.keep(v));
        due("the last keep", x.keep(1), 0);
        due("the first keep", x.keep(0), 0);
        outside("back", x, 0, 1, BAD, (y, v) -> y.back(v));
        due("the last back", x.back(1), 0);
        due("the first back", x.back(0), 0);
        outside("sheet", x, 0, 3, BAD, (y, v) -> y.sheet(v, 0, 3));
        for (int k = 0; k < 4; k++) {
            due("sheet " + k, x.sheet(k, 0, 3), 1);
        }
        outside("lay", x, 0, 3, BAD, (y, v) -> y.lay(v, 0, 0));
        outside("read", x, 0, 3, BAD, (y, v) -> y.read(v, 0, 0, 0));
        due("the last lay", x.lay(3, 2, 0), 1);
        due("the last read", x.read(3, 0, 0, 0), 0);
    }

    @Says("BAD -1 (a number is not as told")
    static void notAsTold() {
        EldestAge x = told("one aunt 0 0 0;move 0 0 0 0;expect 0 0 0 0 0;");
        outside("rule what", x, 0, 4, BAD, (y, v) -> y.rule(v));
        outside("one what", x, 0, 3, BAD, (y, v) -> y.one(0, v));
        outside("moved what", x, 0, 2, BAD, (y, v) -> y.moved(0, v));
        outside("expected what", x, 0, 2, BAD, (y, v) -> y.expected(0, v));
        outside("law v", x, 0, 3, BAD, (y, v) -> y.law(v));
        outside("bear kind", x, 0, 4, BAD, (y, v) -> y.bear(v, 0, 0));
        outside("all law", x, 0, 3, BAD, (y, v) -> y.all(0, v));
        outside("letter n", x, 0, 999, BAD, (y, v) -> y.letter(v, 0, 0, 0));
        outside("letter what", x, 0, 2, BAD, (y, v) -> y.letter(0, 0, 0, v));
        outside("round i", x, 0, 7, BAD, (y, v) -> y.round(0, v));
        outside("want n", x, 0, 999, BAD, (y, v) -> y.want(0, v));
        outside("can what", x, 0, 2, BAD, (y, v) -> y.can(0, 0, v));
        outside("see n", x, 0, 999, BAD, (y, v) -> y.see(0, 0, v));
        outside("born what", x, 0, 2, BAD, (y, v) -> y.born(0, v));
        outside("later n", x, 1, 40, BAD, (y, v) -> y.later(1, 0, v, 0));
        outside("later what", x, 0, 1, BAD, (y, v) -> y.later(1, 0, 1, v));
        outside("read lane", x, 0, 2, BAD, (y, v) -> y.read(0, v, 0, 0));
        outside("read n", x, 0, 13, BAD, (y, v) -> y.read(0, 0, 0, v));
        outside("count what", x, 0, 4, BAD, (y, v) -> y.count(v));
    }

    @Says("BAD -1 (a number is not as told")
    static void notAsToldMore() {
        EldestAge x = told("one aunt 0 0 0;move 0 0 0 0;expect 0 0 0 0 0;");
        outside("sheet lane", x, 0, 2, BAD, (y, v) -> y.sheet(0, v, 0));
        due("sheet above", x.sheet(0, 0, 41), BAD);
        due("sheet far above", x.sheet(0, 0, Integer.MAX_VALUE), BAD);
        outside("end n", x, 0, 0, BAD, (y, v) -> y.end(v));
        outside("undo n", x, 0, 1, BAD, (y, v) -> y.undo(v));
        outside("forget n", x, 0, 0, BAD, (y, v) -> y.forget(v));
        outside("moved m", x, 0, 0, BAD, (y, v) -> y.moved(v, 0));
        outside("expected e", x, 0, 0, BAD, (y, v) -> y.expected(v, 0));
        for (int what = 1; what <= 9; what++) {
            due("fetch what " + what, x.fetch(0, false, what), BAD);
        }
        outside("fetch what", x, 0, 0, BAD, (y, v) -> y.fetch(0, false, v));
    }

    @Says("STATE -2 (as told), FULL -3, NONE -4 (there is none)")
    static void constants() {
        due("BAD", EldestAge.BAD, -1);
        due("STATE", EldestAge.STATE, -2);
        due("FULL", EldestAge.FULL, -3);
        due("NONE", EldestAge.NONE, -4);
        EldestAge x = new EldestAge();
        due("a STATE", x.back(0), EldestAge.STATE);
        due("a NONE", x.lie(), EldestAge.NONE);
        due("a BAD", x.law(4), EldestAge.BAD);
        x.feed(0);
        for (int i = 1; i < 50; i++) {
            x.feed(0);
        }
        due("a FULL", x.feed(0), EldestAge.FULL);
    }

    @Says("the first that fits")
    static void badAheadOfTheOthers() {
        EldestAge x = crowded();
        due("bear kind ahead of FULL", x.bear(5, 0, 0), BAD);
        due("bear day ahead of FULL", x.bear(0, 36000, 0), BAD);
        due("bear house ahead of FULL", x.bear(0, 0, 8), BAD);
        due("bear FULL", x.bear(0, 0, 0), FULL);
        due("move early ahead of FULL", x.move(LAST - 1, 0, 0), BAD);
        due("move one ahead of FULL", x.move(LAST, 10, 0), BAD);
        due("move house ahead of FULL", x.move(LAST, 0, 8), BAD);
        due("move day ahead of FULL", x.move(36000, 0, 0), BAD);
        due("move FULL", x.move(LAST, 0, 0), FULL);
        due("expect house ahead of FULL", x.expect(8, 0, 0), BAD);
        due("expect days ahead of FULL", x.expect(0, 1, 0), BAD);
        due("expect FULL", x.expect(0, 0, 0), FULL);
        due("want house ahead of FULL", x.want(8, 0), BAD);
        due("want n ahead of FULL", x.want(0, 1000), BAD);
        due("want FULL", x.want(0, 0), FULL);
        due("see house ahead of FULL", x.see(8, 0, 0), BAD);
        due("see day ahead of FULL", x.see(0, -1, 0), BAD);
        due("see n ahead of FULL", x.see(0, 0, -1), BAD);
        due("see FULL", x.see(0, 0, 0), FULL);
        due("sheet lane ahead of SIZE", x.sheet(0, 3, -1), BAD);
        due("sheet k ahead of SIZE", x.sheet(4, 0, -1), BAD);
        due("lay k ahead of NULL", x.lay(4, 0, 0), BAD);
        due("back k ahead of STATE", x.back(2), BAD);
        due("fetch day ahead of STATE", x.fetch(36000, false, 0), BAD);
        due("fetch what ahead of STATE", x.fetch(100, false, 1), BAD);
        due("fetch of a plain one ahead of STATE", x.fetch(100, false, 19), BAD);
        due("fetch STATE ahead of NONE", x.fetch(100, false, 0), STATE);
        due("years day ahead of NONE", x.years(0, -1), BAD);
        due("can what ahead of NONE", x.can(7, 0, 3), BAD);
        due("born what ahead of NONE", x.born(0, 3), BAD);
    }

    /** All rooms but the second IMAGE are full; what was SEEN is so; LAW is mean, IMAGE 0 has another one. */
    static EldestAge crowded() {
        EldestAge x = told("houses8;law sum;one aunt0 9 1 died 20 0;" + times(4, "one aunt0 9 1;")
            + times(4, "one vain 9 9 2;") + "one plain 0 1 0;" + times(4, "expect 7 0 9 0 9;"));
        for (int i = 0; i < 12; i++) {
            x.move(LAST, 9 - i % 3, i % 8);
        }
        for (int i = 0; i < 8; i++) {
            x.see(0, 361 + 360 * i, 1 + i);
        }
        for (int i = 0; i < 4; i++) {
            x.want(0, 34);
        }
        x.keep(0);
        x.law(3);
        lessCrowded(x);
        Check.feed(x, "law youngest;" + times(387, " "));
        return x;
    }

    /** A SHEET of each lane, one with nothing, a FAULT of street(), one of read(). */
    private static void lessCrowded(EldestAge x) {
        x.sheet(0, 0, 6);
        x.sheet(1, 1, 3);
        x.sheet(2, 2, 4);
        for (int i = 0; i < 3; i++) {
            x.lay(0, i, 1 + i % 2);
            x.lay(1, i, 2);
            x.lay(2, i, 3 - i);
        }
        x.read(0, 1, 0, 1);
        Check.feed(x, "$");
        x.street();
    }

    /** There is room for more of all; a ONE who LIVES, one who is dead, one who is to be BORN. */
    static EldestAge roomy() {
        EldestAge x = told("houses 3;law mean;one aunt 10 0 0;one vain 20 5 1;one plain 5 9 2 died 60 0;one aunt 80 0 2;"
            + "move 30 0 0 1;move 40 0 1 2;expect 2 50 0 51 0;");
        x.see(0, day(10, 0), 0);
        x.see(0, day(10, 0), 1);
        x.want(1, 25);
        x.keep(1);
        x.law(0);
        x.die(1, day(90, 0));
        lessCrowded(x);
        Check.feed(x, "law sum;");
        return x;
    }

    /** All that can be asked, the tape and the images behind it. */
    private static List<Integer> all(EldestAge x) {
        List<Integer> all = new ArrayList<>(List.of(x.fault(), x.torn(), x.lie(), x.fetch(day(35, 0), false, 0)));
        for (int what = 0; what < 5; what++) {
            all.add(x.count(what));
        }
        street(x, all);
        for (int k = 0; k < 2; k++) {
            all.add(x.back(k));
            if (all.get(all.size() - 1) >= 0) {
                street(x, all);
            }
        }
        cells(x, all);
        all.addAll(List.of(x.street(), x.fault(), x.rule(1)));
        return all;
    }

    private static void street(EldestAge x, List<Integer> all) {
        for (int what = 0; what < 5; what++) {
            all.add(x.rule(what));
        }
        int[] many = {x.rule(2), x.rule(3), x.rule(4)};
        for (int i = 0; i < 12; i++) {
            for (int what = 0; what < 4; what++) {
                if (i < many[0]) {
                    all.add(x.one(i, what));
                }
                if (i < many[1]) {
                    all.add(x.moved(i, what));
                }
                if (i < many[2]) {
                    all.add(x.expected(i, what));
                }
            }
        }
    }

    private static void cells(EldestAge x, List<Integer> all) {
        for (int k = 0; k < 4; k++) {
            for (int lane = 0; lane < 3; lane++) {
                x.undo(0);
                all.add(x.read(k, lane, 0, 1));
                all.add(x.torn());
                for (int what = 0; what < 3; what++) {
                    all.add(x.moved(0, what));
                }
            }
        }
    }

    @Says("what is refused changes nothing (but THE TAPE, as told)")
    static void refusedChangesNothing() {
        List<Integer> was = all(roomy());
        for (Refusal r : refusals()) {
            EldestAge x = roomy();
            due(r.call(), r.made().applyAsInt(x), r.answer());
            CHECK.holds(r.call() + " changes nothing", all(x).equals(was));
        }
    }

    @Says("what is refused changes nothing (but THE TAPE, as told)")
    static void refusedWhereAllIsFullChangesNothing() {
        List<Integer> was = all(crowded());
        for (Refusal r : fullRefusals()) {
            EldestAge x = crowded();
            due(r.call(), r.made().applyAsInt(x), r.answer());
            CHECK.holds(r.call() + " changes nothing", all(x).equals(was));
        }
    }

    private static List<Refusal> fullRefusals() {
        return List.of(
            new Refusal("feed", FULL, x -> x.feed(0x2424242424242424L)),
            new Refusal("bear", FULL, x -> x.bear(3, 5, 5)),
            new Refusal("move", FULL, x -> x.move(LAST, 5, 5)),
            new Refusal("move early", BAD, x -> x.move(LAST - 1, 5, 5)),
            new Refusal("expect", FULL, x -> x.expect(5, 5, 5)),
            new Refusal("want", FULL, x -> x.want(5, 5)),
            new Refusal("see", FULL, x -> x.see(5, 5, 5)),
            new Refusal("fetch", STATE, x -> x.fetch(100, true, 0)),
            new Refusal("fetch her", STATE, x -> x.fetch(100, true, 10)),
            new Refusal("back", STATE, x -> x.back(1)),
            new Refusal("read", -20, x -> x.read(2, 2, 0, 1)));
    }

    private static List<Refusal> refusals() {
        List<Refusal> list = new ArrayList<>(List.of(
            new Refusal("end below", BAD, x -> x.end(-1)),
            new Refusal("end above", BAD, x -> x.end(9)),
            new Refusal("rule", BAD, x -> x.rule(5)),
            new Refusal("one", BAD, x -> x.one(4, 0)),
            new Refusal("moved", BAD, x -> x.moved(2, 0)),
            new Refusal("expected", BAD, x -> x.expected(1, 0)),
            new Refusal("law", BAD, x -> x.law(4)),
            new Refusal("bear kind", BAD, x -> x.bear(5, 0, 0)),
            new Refusal("bear day", BAD, x -> x.bear(0, 36000, 0)),
            new Refusal("bear house", BAD, x -> x.bear(0, 0, 3)),
            new Refusal("die that day", BAD, x -> x.die(0, day(10, 0))),
            new Refusal("die ahead", BAD, x -> x.die(1, day(20, 4))),
            new Refusal("die day", BAD, x -> x.die(0, 36000)),
            new Refusal("die one", BAD, x -> x.die(4, LAST)),
            new Refusal("move early", BAD, x -> x.move(day(40, 0) - 1, 0, 0)),
            new Refusal("move one", BAD, x -> x.move(LAST, 4, 0)),
            new Refusal("move house", BAD, x -> x.move(LAST, 0, 3)),
            new Refusal("undo below", BAD, x -> x.undo(-1)),
            new Refusal("undo above", BAD, x -> x.undo(3)),
            new Refusal("years", NONE, x -> x.years(3, 0)),
            new Refusal("lives", NONE, x -> x.lives(2, day(60, 0))),
            new Refusal("number", NONE, x -> x.number(0, 0)),
            new Refusal("at", BAD, x -> x.at(0, -1)),
            new Refusal("twins", BAD, x -> x.twins(-1)),
            new Refusal("changes", NONE, x -> x.changes(0, LAST)),
            new Refusal("descending", BAD, x -> x.descending(0, 3)),
            new Refusal("all", BAD, x -> x.all(0, 4)),
            new Refusal("letter", BAD, x -> x.letter(1000, 0, 0, 0)),
            new Refusal("round", NONE, x -> x.round(0, 0)),
            new Refusal("round i", BAD, x -> x.round(0, 8))));
        list.addAll(moreRefusals());
        return list;
    }

    private static List<Refusal> moreRefusals() {
        return List.of(
            new Refusal("want house", BAD, x -> x.want(3, 0)),
            new Refusal("want n", BAD, x -> x.want(0, 1000)),
            new Refusal("fetch what", BAD, x -> x.fetch(0, true, 9)),
            new Refusal("fetch a vain one", BAD, x -> x.fetch(day(50, 0), true, 11)),
            new Refusal("fetch nobody", NONE, x -> x.fetch(0, true, 0)),
            new Refusal("fetch none", NONE, x -> x.fetch(day(36, 0), true, 10)),
            new Refusal("expect house", BAD, x -> x.expect(3, 0, 0)),
            new Refusal("expect days", BAD, x -> x.expect(0, 9, 8)),
            new Refusal("can", BAD, x -> x.can(0, 0, 3)),
            new Refusal("can none", NONE, x -> x.can(0, 0, 1)),
            new Refusal("see house", BAD, x -> x.see(3, 0, 0)),
            new Refusal("see n", BAD, x -> x.see(0, 0, 1000)),
            new Refusal("forget below", BAD, x -> x.forget(-1)),
            new Refusal("forget above", BAD, x -> x.forget(3)),
            new Refusal("born", BAD, x -> x.born(4, 0)),
            new Refusal("born none", NONE, x -> x.born(0, 1)),
            new Refusal("later", BAD, x -> x.later(1, 0, 41, 0)),
            new Refusal("keep", BAD, x -> x.keep(2)),
            new Refusal("back", BAD, x -> x.back(-1)),
            new Refusal("back none", STATE, x -> x.back(0)),
            new Refusal("sheet lane", BAD, x -> x.sheet(0, 3, 1)),
            new Refusal("sheet above", BAD, x -> x.sheet(0, 0, 41)),
            new Refusal("sheet below", -14, x -> x.sheet(0, 1, -1)),
            new Refusal("lay nothing", -11, x -> x.lay(3, 0, 5)),
            new Refusal("lay above", -12, x -> x.lay(2, 4, 5)),
            new Refusal("lay below", -12, x -> x.lay(2, -1, 5)),
            new Refusal("read n", BAD, x -> x.read(2, 2, 0, 14)),
            new Refusal("read early", -20, x -> x.read(2, 2, 0, 1)),
            new Refusal("count", BAD, x -> x.count(5)));
    }

    @Says("(but THE TAPE, as told)")
    static void theTapeIsEmptyByAFaultToo() {
        EldestAge x = roomy();
        due("the tape has some", x.count(3), 8);
        Check.feed(x, "law");
        due("a fault", x.street(), -18);
        due("the tape is empty", x.count(3), 0);
        due("the law stays", x.rule(1), 0);
        due("people stay", x.rule(2), 4);
        due("the next text stands alone", x.street(), 0);
    }

    @Says("What is numbered has its numbers from 0 on, as it comes, where nothing else is told.")
    static void numbersFrom0On() {
        EldestAge x = new EldestAge();
        for (int i = 0; i < 4; i++) {
            due("bear " + i, x.bear(i, 10 * i, 3 - i), i);
            x.move(500 + 20 * i, i, i);
            x.expect(i, 30 * i, 30 * i + 1);
            x.see(3 - i, 10 * i, i == 3 ? 7 : 0);
        }
        for (int i = 0; i < 4; i++) {
            due("ONE " + i, x.one(i, 1), 10 * i);
            due("MOVE " + i, x.moved(i, 0), 500 + 20 * i);
            due("EXPECTED " + i, x.expected(i, 1), 30 * i);
        }
        due("the first of SEEN that is not so", x.lie(), 3);
        EldestAge y = told("one plain 7 0 1;one aunt 8 0 2;move 9 0 1 0;move 9 0 0 3;expect 3 1 0 1 0;expect 2 2 0 2 0;");
        due("ONE 0 of a text", y.one(0, 1), day(7, 0));
        due("ONE 1 of a text", y.one(1, 1), day(8, 0));
        due("MOVE 0 of a text", y.moved(0, 1), 1);
        due("MOVE 1 of a text", y.moved(1, 1), 0);
        due("EXPECTED 0 of a text", y.expected(0, 0), 3);
        due("EXPECTED 1 of a text", y.expected(1, 0), 2);
    }

    @Says("Divided down is to the next whole number below.")
    static void dividedDown() {
        // Sums 2, 3, 4, 5 of three heads.
        EldestAge x = told("law mean;one plain 50 0 0;one plain 50 0 0;one plain 48 359 0;");
        due("2 by 3", x.number(0, day(50, 359)), 0);
        EldestAge y = told("law mean;one plain 49 0 0;one plain 49 0 0;one plain 49 0 0;one plain 50 0 1;one plain 50 0 1;one plain 45 0 1;");
        due("3 by 3", y.number(0, day(50, 0)), 1);
        due("5 by 3", y.number(1, day(50, 0)), 1);
        due("8 by 3", y.number(1, day(51, 0)), 2);
        due("4 by 1", told("law mean;one plain 46 0 0;").number(0, day(50, 0)), 4);
    }
}
