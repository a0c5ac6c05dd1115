/** What is fetched, expected, seen, and years by a seed. */
final class AskBounds extends Bounds {
    private AskBounds() {
    }

    private static void fetched(EldestAge x, int on, boolean alone, int many, int... due) {
        due("how many go on " + on, x.fetch(on, alone, 0), many);
        for (int i = 0; i < due.length; i += 2) {
            due("ONE " + due[i] + " on " + on, x.fetch(on, alone, 10 + due[i]), due[i + 1]);
        }
    }

    private static EldestAge wants(String text, int... wants) {
        EldestAge x = told(text);
        for (int i = 0; i < wants.length; i += 2) {
            due("want " + wants[i] + " " + wants[i + 1], x.want(wants[i], wants[i + 1]), i / 2 + 1);
        }
        return x;
    }

    @Says("WANTS (4): a HOUSE, its NUMBER")
    static void fourWants() {
        EldestAge x = new EldestAge();
        for (int i = 0; i < 4; i++) {
            due("want " + i, x.want(3 - i, i), i + 1);
        }
        due("the fifth", x.want(0, 0), FULL);
        due("four are", x.count(1), 4);
        due("content", x.content(), 4);
        due("there is room", x.want(0, 0), 1);
        // All four are looked at, whichever of them is not so.
        int on = day(40, 0);
        String street = "one aunt 10 0 0;one plain 20 0 1;one plain 30 0 2;one plain 35 0 3;";
        int[] so = {0, 30, 1, 20, 2, 10, 3, 5};
        fetched(wants(street, so), on, false, 0);
        for (int i = 1; i < 8; i += 2) {
            int[] wrong = so.clone();
            wrong[i]++;
            fetched(wants(street, wrong), on, false, NONE);
        }
        // The first of two is not forgotten by another one of that HOUSE.
        fetched(wants(street, 0, 30, 0, 30), on, false, 0);
        fetched(wants(street, 0, 31, 0, 30), on, false, NONE);
        fetched(wants(street, 0, 30, 0, 31), on, false, NONE);
    }

    @Says("A WANT more: how many there are. BAD (n 0 to 999); FULL.")
    static void wantBounds() {
        EldestAge x = told("houses 2;");
        due("n -1", x.want(0, -1), BAD);
        due("n 1000", x.want(0, 1000), BAD);
        due("house -1", x.want(-1, 0), BAD);
        due("house 2", x.want(2, 0), BAD);
        due("none came", x.count(1), 0);
        due("n 0", x.want(0, 0), 1);
        due("n 999", x.want(1, 999), 2);
        due("once more", x.want(1, 999), 3);
        due("four", x.want(0, 1), 4);
        due("full", x.want(0, 1), FULL);
        due("bad, though it is full", x.want(0, 1000), BAD);
    }

    @Says("No WANTS: how many there were.")
    static void contentBounds() {
        EldestAge x = told("one plain 0 0 0;");
        due("none", x.content(), 0);
        x.want(0, 7);
        due("it can not be", x.fetch(0, false, 0), NONE);
        due("one", x.content(), 1);
        due("none", x.content(), 0);
        due("it is so", x.fetch(0, false, 0), 0);
        due("the first again", x.want(0, 0), 1);
        due("the old one is gone", x.fetch(0, false, 0), 0);
    }

    @Says("how many go (what 0); 10 and p: the HOUSE of ONE p, who is an aunt.")
    static void fetchAnswers() {
        EldestAge x = wants("one plain 10 0 0;one aunt 20 0 1;one aunt 30 0 1;one lodger 1 0 2;", 2, 20);
        fetched(x, day(50, 0), false, 1, 1, 1, 2, 2);
        x.want(3, 30);
        fetched(x, day(50, 0), false, 2, 1, 3, 2, 2);
        EldestAge last = told(times(9, "one plain 1 0 0;") + "one aunt 1 0 3;");
        fetched(last, day(1, 0), false, 0, 9, 3);
        EldestAge first = told("one aunt 0 0 2;");
        fetched(first, 0, false, 0, 0, 2);
        fetched(first, LAST, true, 0, 0, 2);
    }

    @Says("BAD (also p is none, or does not LIVE then)")
    static void fetchOfNobody() {
        EldestAge x = told("one plain 1 0 0;one aunt 10 0 0;one aunt 10 0 0 died 20 0;one vain 1 0 0;one double 1 0 0;one lodger 1 0 0;");
        int on = day(15, 0);
        due("a plain one", x.fetch(on, false, 10), BAD);
        due("an aunt", x.fetch(on, false, 11), 0);
        due("another one", x.fetch(on, false, 12), 0);
        for (int p = 3; p < 10; p++) {
            due("ONE " + p, x.fetch(on, false, 10 + p), BAD);
        }
        due("ONE 10", x.fetch(on, false, 20), BAD);
        due("ahead of that she is born", x.fetch(day(10, 0) - 1, false, 11), BAD);
        due("the day she is born", x.fetch(day(10, 0), false, 11), 0);
        due("her last day", x.fetch(day(20, 0) - 1, false, 12), 0);
        due("the day she dies", x.fetch(day(20, 0), false, 12), BAD);
        for (int what = 1; what < 10; what++) {
            due("what " + what, x.fetch(on, false, what), BAD);
        }
        due("what -1", x.fetch(on, false, -1), BAD);
        for (int far : FAR) {
            due("what " + far, x.fetch(on, false, far), BAD);
        }
        // So far below 0 that it comes round when ten is taken away.
        due("what that comes round", x.fetch(on, false, Integer.MIN_VALUE + 9), BAD);
        due("day -1", x.fetch(-1, false, 0), BAD);
        due("day 36000", x.fetch(36000, false, 0), BAD);
        // Whether it can be is not asked for nobody.
        x.want(0, 999);
        for (int what : new int[] {-1, 1, 9, 10, 13, 15, 16, 20}) {
            due("what " + what + ", though it can not be", x.fetch(on, false, what), BAD);
        }
        due("it can not be", x.fetch(on, false, 11), NONE);
    }

    @Says("STATE: more than 4 aunts LIVE then")
    static void moreThanFourAunts() {
        EldestAge x = told(times(3, "one aunt 10 0 0;") + "one aunt 10 0 0 died 20 0;one plain 1 0 0;one aunt 15 0 0;one aunt 90 0 0;");
        due("four", x.fetch(day(15, 0) - 1, false, 0), 0);
        due("five", x.fetch(day(15, 0), false, 0), STATE);
        due("five, her", x.fetch(day(15, 0), false, 10), STATE);
        due("five, the fifth", x.fetch(day(15, 0), false, 15), STATE);
        due("five, one who is no aunt", x.fetch(day(15, 0), false, 14), BAD);
        due("five on the last day", x.fetch(day(20, 0) - 1, true, 0), STATE);
        due("four again", x.fetch(day(20, 0), false, 0), 0);
        due("four, the fourth", x.fetch(day(20, 0), false, 15), 0);
        due("five again", x.fetch(day(90, 0), false, 0), STATE);
        x.want(0, 500);
        due("that can not be", x.fetch(day(20, 0), false, 0), NONE);
        due("five and it can not be", x.fetch(day(90, 0), false, 0), STATE);
        due("ten", told(times(10, "one aunt 1 0 0;")).fetch(day(1, 0), false, 0), STATE);
        due("none", new EldestAge().fetch(0, true, 0), 0);
    }

    @Says("NONE: it can not be.")
    static void itCanNotBe() {
        int on = day(50, 0);
        String street = "one plain 10 0 0;one aunt 20 0 1;";
        fetched(wants(street, 0, 41), on, false, NONE, 1, NONE);
        fetched(wants(street, 3, 0), on, false, NONE, 1, NONE);
        fetched(wants(street, 1, 30, 2, 30), on, false, NONE, 1, NONE);
        fetched(wants(street, 1, 30), on, false, 0, 1, 1);
        fetched(wants("one plain 0 0 0;", 0, 1), 0, false, NONE);
        // By ALONE: none can go where it would be another one.
        EldestAge twins = told("one plain 20 0 1;one plain 20 0 3;one aunt 40 0 0;");
        fetched(twins, on, false, 0, 2, 0);
        fetched(twins, on, true, NONE, 2, NONE);
    }

    @Says("aunts who LIVE then, each to some HOUSE (or where he is)")
    static void whereSheIs() {
        EldestAge x = told("houses 8;one aunt 20 0 1;one aunt 90 0 0;move 30 0 0 7;");
        int on = day(50, 0);
        fetched(x, day(30, 0) - 1, false, 0, 0, 1);
        fetched(x, day(30, 0), false, 0, 0, 7);
        x.want(7, 30);
        fetched(x, on, false, 0, 0, 7);
        x.content();
        x.want(1, 30);
        fetched(x, on, false, 1, 0, 1);
        x.content();
        x.want(0, 30);
        fetched(x, on, false, 1, 0, 0);
        // Whole streets are full of four of them.
        EldestAge four = wants("houses 8;one aunt 10 0 7;one aunt 11 0 7;one aunt 12 0 7;one aunt 13 0 7;", 0, 4, 1, 3, 2, 2, 3, 1);
        fetched(four, day(14, 0), false, 4, 0, 0, 1, 1, 2, 2, 3, 3);
        four.content();
        fetched(four, day(14, 0), false, 0, 0, 7, 1, 7, 2, 7, 3, 7);
        // Where there is one HOUSE she is in it, wherever she went in the street that was told ahead.
        Check.feed(four, "houses 1;" + times(4, "one aunt 1 0 0;"));
        due("one HOUSE", four.street(), 5);
        fetched(four, LAST, true, 0, 0, 0, 1, 0, 2, 0, 3, 0);
    }

    @Says("ALONE: no two HOUSES have one NUMBER then.")
    static void alone() {
        int on = day(50, 0);
        EldestAge x = told("one aunt 20 0 1;one aunt 20 0 3;");
        fetched(x, on, false, 0, 0, 1, 1, 3);
        fetched(x, on, true, 1, 0, 1, 1, 1);
        // Those without are no two with one NUMBER.
        fetched(told("houses 8;one aunt 20 0 1;"), on, true, 0, 0, 1);
        fetched(told("one plain 20 0 0;one plain 20 0 1;one aunt 10 0 3;"), on, true, 1, 2, 0);
        fetched(told("law youngest;one plain 20 0 0;one plain 20 0 1;one aunt 40 0 3;"), on, true, 1, 2, 0);
        // She herself makes another one by going there, or leaves one.
        fetched(told("law sum;one plain 20 0 0;one plain 20 0 1;one aunt 20 0 3;"), on, true, 1, 2, 0);
        fetched(told("law sum;one plain 20 0 0;one plain 35 0 1;one aunt 35 0 1;one aunt 45 0 3;"), on, true, 1, 2, 0, 3, 3);
        // On that DAY alone: the day ahead they have others.
        EldestAge then = told("one aunt 20 0 1;one plain 20 1 2;");
        fetched(then, on, true, 0, 0, 1);
        fetched(then, on + 1, true, 1, 0, 2);
    }

    @Says("The fewest who go elsewhere by which all WANTS are so (and ALONE, if that is asked)")
    static void theFewest() {
        int on = day(50, 0);
        // One of 30 rather than two of 20 and 10, though these are the first.
        EldestAge x = wants("law sum;one aunt 40 0 3;one aunt 30 0 3;one aunt 20 0 3;", 0, 30);
        fetched(x, on, false, 1, 0, 3, 1, 3, 2, 0);
        EldestAge two = wants("law sum;one aunt 40 0 3;one aunt 30 0 3;one aunt 20 0 3;", 0, 30, 3, 20);
        fetched(two, on, false, 2, 0, 1, 1, 3, 2, 0);
        EldestAge some = wants("law sum;one aunt 40 0 3;one aunt 30 0 3;one aunt 19 0 3;", 0, 30, 3, 31);
        fetched(some, on, false, 2, 0, 0, 1, 0, 2, 3);
        // WANTS and ALONE both: more go than by WANTS.
        EldestAge both = wants("one plain 10 0 0;one plain 10 0 1;one aunt 5 0 2;one aunt 20 0 2;", 3, 30);
        fetched(both, on, false, 1, 2, 2, 3, 3);
        fetched(both, on, true, 2, 2, 0, 3, 3);
        EldestAge three = wants("one aunt 20 0 0;one aunt 20 0 0;one aunt 20 0 0;one aunt 20 0 0;", 1, 30, 2, 30, 3, 30);
        fetched(three, on, false, 3, 0, 0, 1, 1, 2, 2, 3, 3);
        EldestAge four = wants("houses 5;one aunt 20 0 0;one aunt 20 0 0;one aunt 20 0 0;one aunt 20 0 0;", 1, 30, 2, 30, 3, 30, 4, 30);
        fetched(four, on, false, 4, 0, 1, 1, 2, 2, 3, 3, 4);
    }

    @Says("of several the first by aunts, each by HOUSES.")
    static void theFirstOfSeveral() {
        int on = day(50, 0);
        // One of two goes: to a HOUSE behind hers the second, to one ahead of it the first.
        fetched(wants("one aunt 20 0 1;one aunt 20 0 1;", 3, 30), on, false, 1, 0, 1, 1, 3);
        fetched(wants("one aunt 20 0 1;one aunt 20 0 1;", 0, 30), on, false, 1, 0, 0, 1, 1);
        // She leaves: to the first HOUSE of all.
        fetched(wants("one plain 40 0 2;one aunt 20 0 2;", 2, 10), on, false, 1, 1, 0);
        fetched(wants("one plain 40 0 0;one aunt 20 0 0;", 0, 10), on, false, 1, 1, 1);
        // Two leave: each to the first; who stays of three is the last that can.
        fetched(wants("law sum;one aunt 20 0 3;one aunt 20 0 3;one aunt 20 0 3;", 3, 30), on, false, 2, 0, 0, 1, 0, 2, 3);
        fetched(wants("law sum;one aunt 20 0 0;one aunt 20 0 0;one aunt 20 0 0;", 0, 30), on, false, 2, 0, 0, 1, 1, 2, 1);
        // By the numbers of the ONES, not by their YEARS; others stand between.
        fetched(wants("one aunt 30 0 1;one plain 1 0 2;one aunt 20 0 1;one aunt 20 0 1;", 3, 30), on, false, 1, 0, 1, 2, 1, 3, 3);
    }

    @Says("FETCHED on a DAY, by itself")
    static void fetchedByItself() {
        EldestAge x = wants("one aunt 20 0 1;", 3, 30);
        fetched(x, day(50, 0), false, 1, 0, 3);
        due("she lives where she did", x.lives(0, day(50, 0)), 1);
        due("her house as told", x.one(0, 2), 1);
        due("no move", x.rule(3), 0);
        due("number", x.number(3, day(50, 0)), NONE);
        due("the want stays", x.count(1), 1);
        fetched(x, day(50, 0), false, 1, 0, 3);
        fetched(x, day(51, 0), false, NONE, 0, NONE);
    }

    private static void can(EldestAge x, int house, int on, int least, int most, int without) {
        due("least of " + house + " on " + on, x.can(house, on, 0), least);
        due("greatest of " + house + " on " + on, x.can(house, on, 1), most);
        due("without of " + house + " on " + on, x.can(house, on, 2), without);
    }

    @Says("each EXPECTED one is BORN on some DAY of his span")
    static void someDayOfHisSpan() {
        EldestAge x = new EldestAge();
        x.expect(0, 3600, 4400);
        can(x, 0, 3599, NONE, NONE, 1);
        can(x, 0, 3600, 0, 0, 1);
        can(x, 0, 3959, 0, 0, 1);
        can(x, 0, 3960, 0, 1, 1);
        can(x, 0, 4399, 0, 2, 1);
        can(x, 0, 4400, 0, 2, 0);
        can(x, 0, 4759, 0, 3, 0);
        can(x, 0, 4760, 1, 3, 0);
        can(x, 0, LAST, 87, 89, 0);
        EldestAge one = new EldestAge();
        one.expect(3, 3600, 3600);
        can(one, 3, 3599, NONE, NONE, 1);
        can(one, 3, 3600, 0, 0, 0);
        can(one, 3, 3960, 1, 1, 0);
        EldestAge all = new EldestAge();
        all.expect(1, 0, LAST);
        can(all, 1, 0, 0, 0, 1);
        can(all, 1, LAST - 1, 0, 99, 1);
        can(all, 1, LAST, 0, 99, 0);
    }

    @Says("as a plain one, of that HOUSE.")
    static void plainOnesOfThatHouse() {
        EldestAge x = told("law sum;one plain 10 0 0;one lodger 1 0 1;move 20 0 0 2;expect 1 10 0 10 0;expect 3 10 0 10 0;expect 3 11 0 11 0;");
        can(x, 1, day(30, 0), 20, 20, 0);
        can(x, 3, day(30, 0), 39, 39, 0);
        can(x, 0, day(30, 0), NONE, NONE, 1);
        can(x, 2, day(30, 0), 20, 20, 0);
        can(x, 1, day(10, 0) - 1, NONE, NONE, 1);
        EldestAge four = told("houses 1;law sum;one double 10 0 0;" + times(4, "expect 0 10 0 12 0;"));
        can(four, 0, day(20, 0), 20 + 32, 20 + 40, 0);
        can(four, 0, day(11, 0), 2, 2 + 4, 0);
        four.law(0);
        can(four, 0, day(20, 0), 10, 10, 0);
        four.law(1);
        can(four, 0, day(20, 0), 8, 10, 0);
        four.law(3);
        can(four, 0, day(20, 0), 52 / 6, 10, 0);
        EldestAge ten = told("law sum;" + times(10, "one plain 10 0 0;") + times(4, "expect 0 10 0 12 0;") + "move 10 0 9 1;");
        can(ten, 0, day(20, 0), 90 + 32, 90 + 40, 0);
    }

    @Says("WITH BIRTHS: the least NUMBER that a HOUSE can have on a DAY (what 0), the greatest (1), whether it can be without (2).")
    static void leastAndGreatest() {
        int on = day(30, 0);
        EldestAge x = told("one plain 10 0 0;expect 0 20 0 40 0;");
        int[][] due = {{20, 20}, {0, 20}, {20, 30}, {10, 20}};
        for (int v = 0; v < 4; v++) {
            x.law(v);
            can(x, 0, on, due[v][0], due[v][1], 0);
        }
        // By the mean: one of few years more is less than none more; neither the first nor the last day makes it.
        EldestAge mean = told("law mean;one plain 25 0 0;expect 0 0 0 5 0;expect 0 28 0 35 0;");
        can(mean, 0, on, (5 + 25) / 3, (5 + 30) / 2, 0);
        EldestAge near = told("law mean;one plain 20 0 0;expect 0 0 0 99 359;");
        can(near, 0, on, 5, 20, 0);
        // What BIRTHS there are is nobody's before.
        due("nobody is born by it", x.rule(2), 1);
        due("number by itself", x.number(0, on), 20);
        due("what -1", x.can(0, on, -1), BAD);
        due("what 3", x.can(0, on, 3), BAD);
        due("house 4", x.can(4, on, 0), BAD);
        due("house -1", x.can(-1, on, 0), BAD);
        due("day -1", x.can(0, -1, 0), BAD);
        due("day 36000", x.can(0, 36000, 2), BAD);
    }

    @Says("NONE (0, 1): it has one by no BIRTHS.")
    static void oneByNoBirths() {
        EldestAge x = told("one lodger 1 0 0;one plain 1 0 1 died 5 0;expect 1 20 0 30 0;expect 2 20 0 30 0;");
        can(x, 0, LAST, NONE, NONE, 1);
        can(x, 1, day(5, 0) - 1, 3, 3, 0);
        can(x, 1, day(5, 0), NONE, NONE, 1);
        can(x, 1, day(20, 0) - 1, NONE, NONE, 1);
        can(x, 1, day(20, 0), 0, 0, 1);
        can(x, 3, LAST, NONE, NONE, 1);
        can(new EldestAge(), 0, 0, NONE, NONE, 1);
    }

    @Says("SEEN (8): a HOUSE, a DAY, its NUMBER then (0 to 999).")
    static void eightSeen() {
        EldestAge x = told("one plain 0 0 0;");
        due("n 0", x.see(0, 0, 0), 1);
        due("the last day", x.see(0, LAST, 99), 2);
        due("n 999", x.see(3, 0, 999), 3);
        for (int i = 4; i <= 8; i++) {
            due("see " + i, x.see(0, 0, 0), i);
        }
        due("the ninth", x.see(0, 0, 0), FULL);
        due("eight are", x.count(0), 8);
        due("n -1", x.see(0, 0, -1), BAD);
        due("n 1000", x.see(0, 0, 1000), BAD);
        due("forget", x.forget(7), 8);
        due("there is room for one", x.see(0, 0, 0), 8);
        due("and no more", x.see(0, 0, 0), FULL);
        due("the third is not so", x.lie(), 2);
    }

    @Says("SEEN: how many are. BAD; FULL.")
    static void seeBounds() {
        EldestAge x = told("houses 2;");
        due("house -1", x.see(-1, 0, 0), BAD);
        due("house 2", x.see(2, 0, 0), BAD);
        due("day -1", x.see(0, -1, 0), BAD);
        due("day 36000", x.see(0, 36000, 0), BAD);
        due("n -1", x.see(0, 0, -1), BAD);
        due("n -4", x.see(0, 0, NONE), BAD);
        due("n 1000", x.see(0, 0, 1000), BAD);
        due("nothing is", x.count(0), 0);
        for (int i = 1; i <= 8; i++) {
            due("see " + i, x.see(1, LAST, 999), i);
        }
        due("full", x.see(1, LAST, 999), FULL);
        due("bad, though it is full", x.see(1, LAST, 1000), BAD);
    }

    @Says("SEEN are the first n alone: how many there were. BAD (n above that, too).")
    static void forgetBounds() {
        EldestAge x = told("one plain 0 0 0;");
        due("none of none", x.forget(0), 0);
        due("1 of none", x.forget(1), BAD);
        due("-1 of none", x.forget(-1), BAD);
        for (int i = 0; i < 8; i++) {
            x.see(0, 360 * i, i < 5 ? i : 77);
        }
        due("the first lie", x.lie(), 5);
        due("9 of 8", x.forget(9), BAD);
        due("-1 of 8", x.forget(-1), BAD);
        due("8 of 8", x.forget(8), 8);
        due("still", x.lie(), 5);
        due("6 of 8", x.forget(6), 8);
        due("the sixth is left", x.lie(), 5);
        due("7 of 6", x.forget(7), BAD);
        due("5 of 6", x.forget(5), 6);
        due("all are so", x.lie(), NONE);
        due("0 of 5", x.forget(0), 5);
        due("nothing", x.count(0), 0);
    }

    @Says("The first of SEEN that is not so. NONE: all are.")
    static void theFirstLie() {
        EldestAge x = told("one plain 10 0 0 died 20 0;one lodger 10 0 1;");
        due("nothing is SEEN", x.lie(), NONE);
        x.see(0, day(10, 0), 0);
        x.see(0, day(20, 0) - 1, 9);
        due("all are so", x.lie(), NONE);
        x.see(0, day(20, 0), 10);
        due("he is dead", x.lie(), 2);
        x.see(1, day(10, 0), 0);
        due("the first of two", x.lie(), 2);
        x.forget(2);
        x.see(1, day(10, 0), 0);
        due("a HOUSE without", x.lie(), 2);
        x.forget(2);
        x.see(0, day(10, 0) - 1, 0);
        due("he is not born", x.lie(), 2);
        x.forget(0);
        x.see(0, day(15, 0), 4);
        x.see(0, day(15, 0), 5);
        due("the first of all", x.lie(), 0);
        x.forget(0);
        for (int i = 0; i < 8; i++) {
            x.see(0, day(15, 0), i == 7 ? 6 : 5);
        }
        due("the last of eight", x.lie(), 7);
        x.bear(0, day(9, 0), 0);
        due("by who is there now", x.lie(), 0);
        x.law(1);
        due("by the LAW that is now", x.lie(), 7);
    }

    private static void born(EldestAge x, int p, int many, int first, int last) {
        int[] due = {many, first, last};
        for (int what = 0; what < 3; what++) {
            due("born " + p + " " + what, x.born(p, what), due[what]);
        }
    }

    @Says("(its DAY as told; before he DIES)")
    static void beforeHeDies() {
        EldestAge x = told("one plain 10 100 0;one plain 10 100 0 died 20 99;one plain 10 100 0 died 20 100;one plain 10 100 0 died 20 101;"
            + "one plain 0 0 0 died 0 1;one plain 0 359 0 died 99 359;one plain 99 359 0;one plain 99 358 0 died 99 359;");
        born(x, 0, 100, 0, 99);
        born(x, 1, 20, 0, 19);
        born(x, 2, 20, 0, 19);
        born(x, 3, 21, 0, 20);
        born(x, 4, 1, 0, 0);
        born(x, 5, 99, 0, 98);
        born(x, 6, 100, 0, 99);
        born(x, 7, 100, 0, 99);
        due("as it is", x.one(0, 1), day(10, 100));
        due("ONE 8", x.born(8, 0), BAD);
        due("ONE -1", x.born(-1, 0), BAD);
        due("what -1", x.born(0, -1), BAD);
        due("what 3", x.born(0, 3), BAD);
    }

    @Says("all else as it is, so that all that was SEEN is so: how many (what 0), the first (1), the last (2).")
    static void soThatAllIsSo() {
        int on = day(50, 0);
        EldestAge x = told("one plain 20 0 0;one plain 30 10 0;one vain 30 10 1;one lodger 30 0 2;");
        x.see(0, on, 30);
        // Whoever is no older than 30 then, or not born, or born on that very DAY's YEAR.
        born(x, 1, 81, 19, 99);
        born(x, 0, 1, 20, 20);
        born(x, 3, 100, 0, 99);
        x.see(0, day(50, 9), 30);
        born(x, 1, 81, 19, 99);
        x.see(0, day(50, 10), 31);
        born(x, 1, 1, 19, 19);
        x.forget(0);
        // A vain one tells 0 with 0 to 3 years; of the day he is BORN on, too.
        x.see(1, day(50, 10), 0);
        born(x, 2, 4, 47, 50);
        x.see(1, day(47, 9), 0);
        born(x, 2, 0, NONE, NONE);
        x.forget(0);
        x.see(0, 0, 0);
        born(x, 0, 1, 0, 0);
        x.forget(0);
        x.see(1, LAST, 0);
        born(x, 2, 4, 96, 99);
    }

    @Says("NONE (1, 2): none.")
    static void bornInNoYear() {
        EldestAge x = told("one plain 20 0 0;one plain 20 0 1;one plain 5 0 2 died 9 0;move 30 0 0 3;");
        x.see(1, day(50, 0), 31);
        born(x, 0, 0, NONE, NONE);
        born(x, 1, 1, 19, 19);
        x.see(1, day(50, 0), 30);
        born(x, 1, 0, NONE, NONE);
        x.forget(0);
        // He has moved by then, he is dead by then: of no year.
        x.see(0, day(30, 0), 10);
        born(x, 0, 0, NONE, NONE);
        x.forget(0);
        x.see(0, day(30, 0) - 1, 10);
        born(x, 0, 1, 19, 19);
        x.forget(0);
        x.see(2, day(9, 0), 3);
        born(x, 2, 0, NONE, NONE);
        x.forget(0);
        x.see(2, day(9, 0) - 1, 3);
        born(x, 2, 1, 5, 5);
    }

    private static int next(int seed) {
        return (int) (seed * 1103515245L + 12345L);
    }

    /** Bits 16 to 30 modulo 100. */
    private static int chance(int seed) {
        long bits = 0;
        for (int b = 30; b >= 16; b--) {
            bits = bits * 2 + (seed >> b & 1);
        }
        return (int) (bits % 100);
    }

    private static int[] seeds() {
        int[] seeds = new int[240];
        for (int i = 0; i < 240; i++) {
            seeds[i] = i < 200 ? i - 100 : (i - 220) * 100000007;
        }
        seeds[0] = Integer.MIN_VALUE;
        seeds[1] = Integer.MAX_VALUE;
        return seeds;
    }

    @Says("the seed becomes seed times 1103515245 and 12345")
    static void theSeedBecomes() {
        // The second one's chance is that of the seed behind the first one's.
        EldestAge x = told("law sum;one plain 50 0 0;one plain 0 0 1;");
        EldestAge alone = told("law sum;one plain 0 0 1;");
        for (int seed : seeds()) {
            due("alone " + seed, alone.later(seed, day(50, 0), 1, 0), chance(next(seed)) < 50 ? 0 : 1);
            due("behind another " + seed, x.later(seed, day(50, 0), 1, 0), chance(next(next(seed))) < 50 ? 1 : 2);
            due("NUMBERS " + seed, x.later(seed, day(50, 0), 1, 1), chance(next(next(seed))) < 50 ? 0 : 50);
        }
        // From one YEAR on to the next.
        EldestAge on = told("one plain 40 0 0;");
        for (int seed : seeds()) {
            boolean dies = chance(next(seed)) < 10 || chance(next(next(seed))) < 11;
            due("two YEARS " + seed, on.later(seed, day(50, 0), 2, 0), dies ? 0 : 1);
        }
    }

    @Says("are bits 16 to 30 of it modulo 100 less than YEARS of his, he DIES on that DAY.")
    static void lessThanYearsOfHis() {
        int justLess = 0;
        int justAsMany = 0;
        for (int years : new int[] {0, 1, 2, 30, 98, 99}) {
            EldestAge x = told("one vain " + (99 - years) + " 0 3;");
            for (int seed : seeds()) {
                int chance = chance(next(seed));
                justLess += chance == years - 1 ? 1 : 0;
                justAsMany += chance == years ? 1 : 0;
                due("of " + years + " years, " + seed, x.later(seed, LAST, 1, 0), chance < years ? 0 : 1);
                due("NUMBER " + years + ", " + seed, x.later(seed, LAST, 1, 1), chance < years ? 0 : Math.max(0, years - 3));
            }
        }
        CHECK.holds("seeds of just these chances", justLess > 9 && justAsMany > 9);
    }

    @Says("ONE by ONE who LIVES then")
    static void whoLivesThen() {
        int on = day(50, 0);
        EldestAge x = told("one plain 0 0 0 died 50 359;one plain 51 0 0;one lodger 20 0 1;one plain 1 0 0 died 9 0;one aunt 10 0 2 died 51 0;");
        EldestAge those = told("one lodger 20 0 1;one aunt 10 0 2;");
        for (int seed : seeds()) {
            int stay = (chance(next(seed)) < 30 ? 0 : 1) + (chance(next(next(seed))) < 40 ? 0 : 1);
            due("who LIVES " + seed, x.later(seed, on, 1, 0), stay);
            due("as by these alone " + seed, those.later(seed, on, 1, 0), stay);
        }
        // Who is dead by the YEAR ahead is none of the next; who is BORN then is one of them.
        EldestAge pair = told("one plain 0 0 0;one plain 51 359 1;one plain 30 0 2;");
        for (int seed : seeds()) {
            due("of two YEARS " + seed, pair.later(seed, on, 2, 0), ofTwoYears(seed));
        }
    }

    /** Of 50 and 20 years, then of 51, 0, 21, those who are left. */
    private static int ofTwoYears(int seed) {
        int s = next(seed);
        boolean first = chance(s) >= 50;
        s = next(s);
        boolean second = chance(s) >= 20;
        if (first) {
            s = next(s);
            first = chance(s) >= 51;
        }
        s = next(s);
        if (second) {
            s = next(s);
            second = chance(s) >= 21;
        }
        return 1 + (first ? 1 : 0) + (second ? 1 : 0);
    }

    @Says("from a DAY on (its YEAR's last DAY first, then those of the YEARS behind it)")
    static void lastDaysOfYears() {
        // Of 0 years nobody dies: who is BORN on a YEAR's last DAY tells which DAY it is.
        EldestAge x = told("one plain 50 359 0;one plain 51 359 0;one plain 52 359 0 died 53 0;");
        due("from the first day", x.later(1, day(50, 0), 1, 0), 1);
        due("from the last day", x.later(1, day(50, 359), 1, 0), 1);
        due("from the YEAR ahead", x.later(1, day(49, 359), 1, 0), 0);
        due("DAY 0", x.later(1, 0, 1, 0), 0);
        EldestAge sum = told("law sum;one plain 53 0 0;");
        due("ahead of that he is BORN", sum.later(1, day(52, 0), 1, 0), 0);
        due("in that YEAR", sum.later(1, day(52, 359), 2, 0), 1);
        due("a birthday on the last day", told("one plain 50 359 0;").later(seedOfChance(99), day(51, 0), 1, 1), 1);
        EldestAge edge = told("one plain 50 358 2 died 50 359;one plain 50 359 1 died 51 0;");
        due("who DIES on the last day does not LIVE then, who DIES behind it does", edge.later(1, day(50, 0), 1, 0), 1);
    }

    private static int seedOfChance(int chance) {
        int seed = 0;
        while (chance(next(seed)) != chance) {
            seed++;
        }
        return seed;
    }

    @Says("YEARS by a seed, n (1 to 40) from a DAY on (those behind YEAR 99 are not)")
    static void oneToFortyYears() {
        EldestAge x = told("one plain 99 359 0;");
        due("40 up to YEAR 99", x.later(1, day(60, 0), 40, 0), 1);
        due("39 up to YEAR 98", x.later(1, day(60, 359), 39, 0), 0);
        due("40 up to YEAR 98", x.later(1, day(59, 359), 40, 0), 0);
        due("39 up to YEAR 99", x.later(1, day(61, 0), 39, 0), 1);
        due("those behind are not", x.later(1, day(61, 0), 40, 0), 1);
        due("YEAR 99", x.later(1, day(99, 0), 1, 0), 1);
        due("YEAR 99 and those behind", x.later(1, LAST, 40, 0), 1);
        due("YEAR 98 alone", x.later(1, day(99, 0) - 1, 1, 0), 0);
        due("YEARS 98, 99", x.later(1, day(99, 0) - 1, 2, 0), 1);
        due("NUMBERS", x.later(1, LAST, 40, 1), 0);
        due("n 0", x.later(1, 0, 0, 0), BAD);
        due("n -1", x.later(1, 0, -1, 0), BAD);
        due("n 41", x.later(1, 0, 41, 0), BAD);
        due("n 41 from the last", x.later(1, LAST, 41, 0), BAD);
        due("what 2", x.later(1, 0, 1, 2), BAD);
        due("what -1", x.later(1, 0, 1, -1), BAD);
        due("day -1", x.later(1, -1, 1, 0), BAD);
        due("day 36000", x.later(1, 36000, 1, 0), BAD);
        EldestAge once = told("one plain 0 0 0;");
        for (int seed : seeds()) {
            int due = chance(next(seed)) < 99 ? 0 : 1;
            due("no chance behind YEAR 99 " + seed, once.later(seed, day(99, 0), 40, 0), due);
        }
    }

    @Says("how many LIVE behind them (what 0), NUMBERS of all HOUSES on the last of these DAYS, summed (1).")
    static void behindThem() {
        int all = seedOfChance(99);
        EldestAge x = told("houses 8;one plain 49 0 0;one plain 50 359 7;one lodger 50 300 6;");
        due("three LIVE", x.later(all, day(50, 0), 1, 0), 3);
        due("the NUMBERS of that DAY", x.later(all, day(50, 0), 1, 1), 1);
        due("the next YEAR's", x.later(all, day(51, 0), 1, 1), 2 + 1);
        x.bear(0, 0, 7);
        x.bear(0, 0, 7);
        x.law(2);
        due("two more, by the LAW that is now", x.later(all, day(1, 0), 1, 1), 2);
        due("none", told("").later(5, 0, 40, 0), 0);
        due("no NUMBERS", told("").later(5, 0, 40, 1), 0);
        due("by itself: none is dead", x.one(0, 3), NONE);
        EldestAge once = told("one plain 0 0 0;");
        int dead = seedOfChance(0);
        due("he DIES", once.later(dead, day(98, 0), 1, 0), 0);
        due("he LIVES again", once.lives(0, LAST), 0);
        due("he DIES again", once.later(dead, day(98, 0), 1, 0), 0);
        due("by another seed he does not", once.later(all, day(98, 0), 1, 0), 1);
        due("number", once.number(0, LAST), 99);
    }
}
