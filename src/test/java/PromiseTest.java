/** Each promise by ordinary inputs, by the edges that the document names, by wrong inputs. */
public final class PromiseTest {
    private static final int BAD = -1, STATE = -2, FULL = -3, NONE = -4;
    private static final int LAST = 35999;
    private static final Check CHECK = new Check("PromiseTest");

    private static final String FAMILY = "houses 4;law eldest;one plain 10 100 0 died 70 20;one aunt 20 9 1;"
        + "one vain 15 300 2;one double 60 0 0;one lodger 5 5 3;move 65 10 1 2;expect 3 70 0 70 300;";

    private static void due(String call, long got, long want) {
        CHECK.due(call, got, want);
    }

    public static void main(String[] args) {
        newObject();
        tape();
        textTaken();
        textFaults();
        textFaultOrder();
        textReplaces();
        asked();
        laws();
        bearing();
        dying();
        moving();
        yearsAndLives();
        numbers();
        numbersByKinds();
        atAndTwins();
        changing();
        order();
        sums();
        letters();
        rounds();
        wanting();
        fetching();
        fetchingByOrder();
        fetchingRefused();
        expecting();
        canBe();
        seeing();
        bornIn();
        later();
        images();
        sheets();
        reading();
        readingRefused();
        counting();
        CHECK.finish();
    }

    private static void newObject() {
        EldestAge x = new EldestAge();
        due("p1 houses", x.rule(0), 4);
        due("p1 law", x.rule(1), 0);
        due("p1 people", x.rule(2), 0);
        due("p1 moves", x.rule(3), 0);
        due("p1 expected", x.rule(4), 0);
        due("p1 fault", x.fault(), 0);
        due("p1 torn", x.torn(), 0);
        due("p1 without", x.at(-1, 0), 15);
        for (int k = 0; k < 4; k++) {
            due("p1 sheet " + k, x.lay(k, 0, 1), -11);
        }
        for (int i = 0; i < 4; i++) {
            due("p1 count " + i, x.count(i), 0);
        }
        due("p1 cells", x.count(4), NONE);
        due("p1 image 0", x.back(0), STATE);
        due("p1 image 1", x.back(1), STATE);
    }

    private static void tape() {
        EldestAge x = new EldestAge();
        due("p3 end(0) of nothing", x.end(0), 0);
        due("p3 end(1) of nothing", x.end(1), BAD);
        for (int i = 1; i <= 50; i++) {
            due("p2 feed " + i, x.feed(0x2020202020202020L), 8 * i);
        }
        due("p2 feed full", x.feed(0x2020202020202020L), FULL);
        due("p2 full leaves", x.count(3), 400);
        due("p3 end below", x.end(-1), BAD);
        due("p3 end above", x.end(401), BAD);
        due("p3 end all", x.end(400), 400);
        due("p3 end", x.end(393), 400);
        due("p2 feed just too many", x.feed(0), FULL);
        due("p3 end", x.end(392), 393);
        due("p2 feed just enough", x.feed(0), 400);
        due("p4 a byte 0 is no token", x.street(), -10 - 392);
        due("p4 the tape is empty by a fault", x.count(3), 0);

        // The highest byte comes first, those above 127 are bytes too.
        x.feed(0x6c61772073756d3bL);
        due("p2 order of bytes", x.street(), 1);
        due("p2 law sum", x.rule(1), 2);
        x.feed(0xff20202020202020L);
        due("p2 byte 255", x.street(), -10);
        due("p5 byte 255", x.fault(), 1);
        Check.feed(x, "law mean;$");
        due("p3 cut", x.end(9), 10);
        due("p4 what was cut is not read", x.street(), 1);
        // What was cut lies there no more, though it would make the last token longer.
        Check.feed(x, "law sum;one");
        x.end(6);
        due("p3 a NAME that was cut", x.street(), -14);
        Check.feed(x, "houses 8888;");
        x.end(8);
        x.feed(0x3b20202020202020L);
        due("p3 a NUMBER that was cut", x.street(), 1);
        due("p3 houses", x.rule(0), 8);
        Check.feed(x, "houses 8888;");
        x.end(8);
        due("p3 a NUMBER at the end", x.street(), -18);
        due("p5 the end", x.fault(), 2);
        // A full tape that ends in the midst of a NAME, of a NUMBER, in blanks, whole.
        String blanks = " ".repeat(392);
        String[] ends = {"law  sum", "houses 8", "law     ", "law sum;"};
        int[] due = {-410, -410, -410, 1};
        for (int i = 0; i < 4; i++) {
            Check.feed(x, blanks + ends[i]);
            due("p2 full " + i, x.count(3), 400);
            due("p4 full " + i, x.street(), due[i]);
            due("p5 full " + i, x.fault(), i < 3 ? 2 : 0);
        }
    }

    private static void taken(String text, int lines) {
        EldestAge x = new EldestAge();
        Check.feed(x, text);
        due("p4 " + text, x.street(), lines);
        due("p5 " + text, x.fault(), 0);
        due("p4 empty behind " + text, x.count(3), 0);
    }

    private static void textTaken() {
        taken("", 0);
        taken("     ", 0);
        taken("houses 1;", 1);
        taken("houses8;law sum;", 2);
        taken("  houses   008  ;  law   youngest  ;  ", 2);
        taken("one plain5 9 1died 5 10;", 1);
        taken("move 5 9 0 1;one plain 5 9 1;", 2);
        taken("one plain 0 0 7;houses 8;", 2);
        taken("one plain 99 359 0;one plain 0 0 0 died 99 359;move 99 359 1 3;expect 3 99 359 99 359;", 4);
        taken("one plain 1 1 1;one aunt 1 1 1;one vain 1 1 1;one double 1 1 1;one lodger 1 1 1;"
            + "one plain 1 1 1;one plain 1 1 1;one plain 1 1 1;one plain 1 1 1;one plain 1 1 1;", 10);
        taken("one aunt 1 1 1;move 1 1 0 1;move 1 1 0 1;move 1 1 0 1;move 1 1 0 1;move 1 1 0 1;move 1 1 0 1;"
            + "move 1 1 0 1;move 1 1 0 1;move 1 1 0 1;move 1 1 0 1;move 1 1 0 1;move 1 1 0 1;", 13);
        taken("expect 0 1 1 1 1;expect 0 1 1 1 1;expect 0 1 1 1 1;expect 0 1 1 1 1;", 4);
        taken("houses 8;one lodger 0 0 7;one aunt 1 1 1;one aunt 1 1 1;one aunt 1 1 1;one aunt 1 1 1;one aunt 1 1 1;"
            + "one aunt 1 1 1;one aunt 1 1 1;one aunt 1 1 1;one aunt 1 1 1;move 0 0 9 7;expect 7 0 0 0 0;", 13);
        String[] laws = {"eldest", "youngest", "sum", "mean"};
        for (int i = 0; i < 4; i++) {
            due("p6 law " + laws[i], Check.told("law " + laws[i] + ";").rule(1), i);
        }
        String[] kinds = {"plain", "aunt", "vain", "double", "lodger"};
        for (int i = 0; i < 5; i++) {
            due("p7 kind " + kinds[i], Check.told("one " + kinds[i] + " 1 1 1;").one(0, 0), i);
        }
    }

    private static void faulty(String text, int fault, int place) {
        EldestAge x = new EldestAge();
        Check.feed(x, text);
        due("p4 place of " + text, x.street(), -10 - place);
        due("p5 fault of " + text, x.fault(), fault);
        due("p4 empty behind " + text, x.count(3), 0);
        due("p4 nothing told by " + text, x.rule(2) + x.rule(3) + x.rule(4) + x.rule(1), 0);
        due("p4 houses stay by " + text, x.rule(0), 4);
    }

    private static void textFaults() {
        faulty("$", 1, 0);
        faulty("  Law sum;", 1, 2);
        faulty("law sum; lAw", 2, 9);
        faulty("law\tsum;", 1, 3);
        faulty("law sum\n;", 1, 7);
        faulty("houses 4444;", 1, 7);
        faulty("houses 0004;", 1, 7);
        faulty("houses 4,", 1, 8);
        faulty("houses -4;", 1, 7);
        // The neighbours of a, z, 0, 9 are no letters, no figures.
        faulty("a", 2, 0);
        faulty("z", 2, 0);
        faulty("`", 1, 0);
        faulty("{", 1, 0);
        faulty("/", 1, 0);
        faulty(":", 1, 0);
        faulty("0", 2, 0);
        faulty("9", 2, 0);
        faulty("law 1234;", 1, 4);
        faulty("one 1234;", 1, 4);
        faulty("one plain 1234 1 1;", 1, 10);
        faulty("one plain 1 1234 1;", 1, 12);
        faulty("one plain 1 1 1234;", 1, 14);
        faulty("one plain 1 1 1 1234;", 1, 16);
        faulty("one plain 1 1 1 died 1234 1;", 1, 21);
        faulty("move 1 1 1 1 1234;", 1, 13);
        faulty(";", 2, 0);
        faulty("4", 2, 0);
        faulty("law sum;;", 2, 8);
        faulty("house 4;", 2, 0);
        faulty("housess 4;", 2, 0);
        faulty("eldest;", 2, 0);
        faulty("died 5 5;", 2, 0);
        faulty("houses", 2, 6);
        faulty("houses   ", 2, 9);
        faulty("houses four;", 2, 7);
        faulty("houses 4", 2, 8);
        faulty("houses 4 5;", 2, 9);
        faulty("houses 4 law sum;", 2, 9);
        faulty("law;", 2, 3);
        faulty("law plain;", 2, 4);
        faulty("law sum mean;", 2, 8);
        faulty("law sum  ", 2, 9);
        faulty("one eldest 1 1 1;", 2, 4);
        faulty("one 1 1 1;", 2, 4);
        faulty("one plain;", 2, 9);
        faulty("one plain 1;", 2, 11);
        faulty("one plain 1 1;", 2, 13);
        faulty("one plain 1 1 1 1;", 2, 16);
        faulty("one plain 1 1 1 die 2 2;", 2, 16);
        faulty("one plain 1 1 1 died;", 2, 20);
        faulty("one plain 1 1 1 died 2;", 2, 22);
        faulty("one plain 1 1 1 died 2 2", 2, 24);
        faulty("one plain 1 1 1 died 2 2 died 3 3;", 2, 25);
        faulty("one plain 1 1 1", 2, 15);
        faulty("one plain 1 1 1;move 1 1 0;", 2, 26);
        faulty("one plain 1 1 1;move 1 1 0 1", 2, 28);
        faulty("one plain 1 1 1;move 1 1 0 1 1;", 2, 29);
        faulty("expect 0 1 1 2;", 2, 14);
        faulty("expect 0 1 1 2 2 2;", 2, 17);
        faulty("houses 0;", 3, 7);
        faulty("houses 9;", 3, 7);
        faulty("one plain 100 1 1;", 3, 10);
        faulty("one plain 99 360 1;", 3, 13);
        faulty("one plain 1 1 8;", 3, 14);
        faulty("one plain 1 1 1 died 100 1;", 3, 21);
        faulty("one plain 1 1 1 died 2 360;", 3, 23);
        faulty("move 100 1 1 1;", 3, 5);
        faulty("move 1 360 1 1;", 3, 7);
        faulty("move 1 1 10 1;", 3, 9);
        faulty("move 1 1 1 8;", 3, 11);
        faulty("expect 8 1 1 1 1;", 3, 7);
        faulty("expect 1 100 1 1 1;", 3, 9);
        faulty("expect 1 1 360 1 1;", 3, 11);
        faulty("expect 1 1 1 100 1;", 3, 13);
        faulty("expect 1 1 1 1 360;", 3, 15);
        faulty("houses 4;law sum;houses 4;", 4, 17);
        faulty("law sum;houses 4;law sum;", 4, 17);
        faulty("one plain 5 9 1 died 5 9;", 4, 23);
        faulty("one plain 5 9 1 died 4 10;", 4, 23);
        faulty("one plain 5 9 1;move 5 9 0 1;move 4 10 0 2;", 4, 36);
        faulty("expect 0 5 9 4 10;", 4, 15);
        faulty("expect 0 5 9 5 8;", 4, 15);
    }

    private static void textFaultOrder() {
        // A token is read only when the one before has been taken.
        faulty("houses 9$", 3, 7);
        faulty("houses 4$", 1, 8);
        faulty("houses 4 12345;", 1, 9);
        faulty("law oldest $", 2, 4);
        faulty("law sum;law $", 4, 8);
        faulty("one plain 5 9 1 died 5 360;", 3, 23);
        faulty("one plain 5 9 1 died 5 9$", 4, 23);
        faulty("move 5 9 0 1;move 5 8 99 1;", 4, 20);
        faulty("one plain 1 1 7;$", 1, 16);
        faulty("one plain 1 1 7;law law", 2, 20);
        String ten = "one plain 1 1 1;one plain 1 1 1;one plain 1 1 1;one plain 1 1 1;one plain 1 1 1;"
            + "one plain 1 1 1;one plain 1 1 1;one plain 1 1 1;one plain 1 1 1;one plain 1 1 1;";
        faulty(ten + " one uncle", 5, 161);
        String twelve = "move 1 1 0 1;move 1 1 0 1;move 1 1 0 1;move 1 1 0 1;move 1 1 0 1;move 1 1 0 1;"
            + "move 1 1 0 1;move 1 1 0 1;move 1 1 0 1;move 1 1 0 1;move 1 1 0 1;move 1 1 0 1;";
        faulty("one plain 1 1 1;" + twelve + "move 0 0 0 0;", 5, 16 + 13 * 12);
        String four = "expect 0 1 1 1 1;expect 0 1 1 1 1;expect 0 1 1 1 1;expect 0 1 1 1 1;";
        faulty(four + "expect;", 5, 68);
        // What there is not is looked for at the end alone, at the length.
        faulty("one plain 1 1 4;", 6, 16);
        faulty("one plain 1 1 2;houses 2;  ", 6, 27);
        faulty("move 1 1 0 1;", 6, 13);
        faulty("one plain 1 1 1;move 1 1 1 1;", 6, 29);
        faulty("one plain 1 1 1;move 1 1 0 4;", 6, 29);
        faulty("expect 4 1 1 1 1;", 6, 17);
        faulty("houses 1;expect 1 1 1 1 1;", 6, 26);
    }

    private static void textReplaces() {
        EldestAge x = Check.told(FAMILY);
        x.want(0, 1);
        x.see(0, 1, 1);
        x.keep(0);
        x.sheet(0, 2, 3);
        x.lay(0, 0, 77);
        x.read(0, 1, 0, 1);
        Check.feed(x, "houses 2;one plain 1 1 1;law law;");
        due("p4 fault", x.street(), -10 - 29);
        due("p5 fault", x.fault(), 2);
        due("p4 houses stay", x.rule(0), 4);
        due("p4 people stay", x.rule(2), 5);
        due("p4 moves stay", x.rule(3), 1);
        due("p4 expected stay", x.rule(4), 1);
        due("p4 seen stays", x.count(0), 1);
        due("p4 wants stay", x.count(1), 1);
        due("p4 images stay", x.count(2), 1);
        x.law(3);
        due("p4 no text", x.street(), 0);
        due("p5 none", x.fault(), 0);
        due("p4 law as at first", x.rule(1), 0);
        due("p4 nobody", x.rule(2), 0);
        due("p4 no moves", x.rule(3), 0);
        due("p4 no births", x.rule(4), 0);
        due("p4 nothing seen", x.count(0), 0);
        due("p4 nothing wanted", x.count(1), 0);
        due("p4 images gone", x.count(2), 0);
        due("p4 back", x.back(0), STATE);
        due("p4 sheets stay", x.count(4), 3);
        due("p41 torn stays", x.torn(), 3);
        Check.feed(x, "houses 2;");
        x.street();
        due("p4 houses", x.rule(0), 2);
        due("p4 house 2", x.number(2, 0), BAD);
        x.street();
        due("p4 houses as at first", x.rule(0), 4);
        // Nobody of an earlier text is about, however many they were.
        Check.feed(x, "law sum;one aunt 1 1 1;one aunt 1 1 1;one aunt 1 1 1;one aunt 1 1 1;one aunt 1 1 1;one aunt 1 1 1;"
            + "move 2 2 5 0;move 2 2 5 0;expect 0 1 1 1 1;");
        x.street();
        due("p4 six", x.later(1, Check.day(1, 1), 1, 0), 6);
        Check.feed(x, "one plain 1 0 0;");
        x.street();
        int day = Check.day(30, 0);
        due("p4 no aunts", x.fetch(day, true, 0), 0);
        due("p4 his years alone", x.all(day, 2), 29);
        due("p4 he alone", x.later(1, 360, 1, 0), 1);
        due("p4 no births", x.can(0, day, 1), 29);
        due("p4 nobody else", x.at(-1, day), 14);
        x.bear(1, 0, 3);
        due("p4 no move of the one who was", x.lives(1, LAST), 3);
    }

    private static void asked() {
        EldestAge x = Check.told(FAMILY);
        int[] rules = {4, 0, 5, 1, 1};
        for (int i = 0; i < 5; i++) {
            due("p6 rule " + i, x.rule(i), rules[i]);
        }
        due("p6", x.rule(-1), BAD);
        due("p6", x.rule(5), BAD);
        int[][] ones = {{0, 3700, 0, 25220}, {1, 7209, 1, NONE}, {2, 5700, 2, NONE}, {3, 21600, 0, NONE}, {4, 1805, 3, NONE}};
        for (int p = 0; p < 5; p++) {
            for (int what = 0; what < 4; what++) {
                due("p7 one " + p + " " + what, x.one(p, what), ones[p][what]);
            }
        }
        due("p7", x.one(-1, 0), BAD);
        due("p7", x.one(5, 0), BAD);
        due("p7", x.one(10, 0), BAD);
        due("p7", x.one(0, -1), BAD);
        due("p7", x.one(0, 4), BAD);
        int[] move = {23410, 1, 2};
        int[] birth = {3, 25200, 25500};
        for (int what = 0; what < 3; what++) {
            due("p8 " + what, x.moved(0, what), move[what]);
            due("p9 " + what, x.expected(0, what), birth[what]);
        }
        for (int bad = -1; bad < 4; bad += 4) {
            due("p8 what", x.moved(0, bad), BAD);
            due("p9 what", x.expected(0, bad), BAD);
        }
        due("p8", x.moved(-1, 0), BAD);
        due("p8", x.moved(1, 0), BAD);
        due("p8", x.moved(0, 3), BAD);
        due("p8", x.moved(12, 0), BAD);
        due("p9", x.expected(-1, 0), BAD);
        due("p9", x.expected(1, 0), BAD);
        due("p9", x.expected(4, 0), BAD);
        due("p9", x.expected(0, 3), BAD);
        due("p7 his house as told", x.lives(1, LAST), 2);
    }

    private static void laws() {
        EldestAge x = new EldestAge();
        due("p10", x.law(3), 0);
        due("p10", x.law(1), 3);
        due("p10", x.law(4), BAD);
        due("p10", x.law(-1), BAD);
        due("p10 refused changes nothing", x.rule(1), 1);
    }

    private static void bearing() {
        EldestAge x = new EldestAge();
        due("p11", x.bear(-1, 0, 0), BAD);
        due("p11", x.bear(5, 0, 0), BAD);
        due("p11", x.bear(0, -1, 0), BAD);
        due("p11", x.bear(0, 36000, 0), BAD);
        due("p11", x.bear(0, 0, -1), BAD);
        due("p11", x.bear(0, 0, 4), BAD);
        due("p11 none came", x.rule(2), 0);
        due("p11", x.bear(4, LAST, 3), 0);
        due("p11 kind", x.one(0, 0), 4);
        due("p11 born", x.one(0, 1), LAST);
        due("p11 house", x.one(0, 2), 3);
        due("p11 dies", x.one(0, 3), NONE);
        for (int p = 1; p < 10; p++) {
            due("p11 " + p, x.bear(p % 5, p, p % 4), p);
        }
        due("p11 full", x.bear(0, 0, 0), FULL);
        due("p11 bad ahead of full", x.bear(5, 0, 0), BAD);
        due("p11 ten", x.rule(2), 10);
    }

    private static void dying() {
        EldestAge x = Check.told("one plain 10 0 0;");
        due("p12", x.die(1, 4000), BAD);
        due("p12", x.die(-1, 4000), BAD);
        due("p12", x.die(0, 36000), BAD);
        due("p12", x.die(0, -1), BAD);
        due("p12 born then", x.die(0, 3600), BAD);
        due("p12 none", x.one(0, 3), NONE);
        due("p12 a day behind", x.die(0, 3601), NONE);
        due("p12 lives", x.lives(0, 3600), 0);
        due("p12 not then", x.lives(0, 3601), NONE);
        due("p12 again", x.die(0, LAST), 3601);
        due("p12 refused changes nothing", x.die(0, 3599), BAD);
        due("p12 dies", x.one(0, 3), LAST);
        due("p12 up to the day ahead", x.lives(0, LAST - 1), 0);
        due("p12 not on it", x.lives(0, LAST), NONE);
    }

    private static void moving() {
        EldestAge x = Check.told("houses 3;one plain 10 0 0;one plain 11 0 1;");
        due("p13", x.move(-1, 0, 0), BAD);
        due("p13", x.move(36000, 0, 0), BAD);
        due("p13", x.move(1, 2, 0), BAD);
        due("p13", x.move(1, -1, 0), BAD);
        due("p13", x.move(1, 0, 3), BAD);
        due("p13", x.move(1, 0, -1), BAD);
        due("p13 none came", x.rule(3), 0);
        due("p13", x.move(4000, 0, 1), 1);
        due("p13 too early", x.move(3999, 1, 1), BAD);
        due("p13 that day", x.move(4000, 0, 2), 2);
        due("p13", x.move(5000, 1, 0), 3);
        due("p13 day", x.moved(1, 0), 4000);
        due("p13 one", x.moved(2, 1), 1);
        due("p13 house", x.moved(1, 2), 2);
        due("p14", x.undo(4), BAD);
        due("p14", x.undo(-1), BAD);
        due("p14 all stay", x.undo(3), 3);
        due("p14", x.undo(1), 3);
        due("p14 one is", x.rule(3), 1);
        due("p14 gone", x.moved(1, 0), BAD);
        due("p14 lives", x.lives(0, 4000), 1);
        due("p13 by that ahead again", x.move(4500, 0, 0), 2);
        for (int m = 3; m <= 12; m++) {
            due("p13 " + m, x.move(LAST, m % 2, m % 3), m);
        }
        due("p13 full", x.move(LAST, 0, 0), FULL);
        due("p13 bad ahead of full", x.move(LAST - 1, 0, 0), BAD);
        due("p14 none", x.undo(0), 12);
        due("p13 no day is ahead", x.move(0, 0, 2), 1);
        due("p13 before he is born", x.lives(0, 3600), 2);
    }

    private static void yearsAndLives() {
        EldestAge x = Check.told("one vain 10 100 0 died 20 50;one plain 0 0 1;move 15 0 0 2;move 15 0 0 3;move 16 0 1 2;");
        due("p15 ahead", x.years(0, 3699), NONE);
        due("p15 born", x.years(0, 3700), 0);
        due("p15 a day less", x.years(0, 3700 + 359), 0);
        due("p15 a birthday", x.years(0, 3700 + 360), 1);
        due("p15 the last day", x.years(0, 7249), 9);
        due("p15 dead", x.years(0, 7250), NONE);
        due("p15 most", x.years(1, LAST), 99);
        due("p15", x.years(2, 0), BAD);
        due("p15", x.years(-1, 0), BAD);
        due("p15", x.years(0, -1), BAD);
        due("p15", x.years(0, 36000), BAD);
        due("p16 ahead", x.lives(0, 3699), NONE);
        due("p16 born", x.lives(0, 3700), 0);
        due("p16 ahead of the move", x.lives(0, 5399), 0);
        due("p16 the last of one day", x.lives(0, 5400), 3);
        due("p16 another one's", x.lives(0, 6000), 3);
        due("p16 other", x.lives(1, 5759), 1);
        due("p16 other", x.lives(1, 5760), 2);
        due("p16 dead", x.lives(0, 7250), NONE);
        due("p16", x.lives(2, 0), BAD);
        due("p16", x.lives(-1, 0), BAD);
        due("p16", x.lives(0, -1), BAD);
        due("p16", x.lives(0, 36000), BAD);
    }

    private static void numbers() {
        // On the day 60 0: 50, 39 and 20 years in house 0.
        EldestAge x = Check.told("one plain 10 0 0;one plain 20 1 0;one plain 40 0 0;one plain 60 1 1;");
        int day = Check.day(60, 0);
        int[] due = {50, 20, 109, 36};
        for (int v = 0; v < 4; v++) {
            x.law(v);
            due("p17 law " + v, x.number(0, day), due[v]);
            due("p17 none " + v, x.number(1, day), NONE);
            due("p17 born " + v, x.number(1, day + 1), 0);
        }
        due("p17", x.number(4, day), BAD);
        due("p17", x.number(-1, day), BAD);
        due("p17", x.number(0, -1), BAD);
        due("p17", x.number(0, 36000), BAD);
    }

    private static void numbersByKinds() {
        int day = Check.day(50, 0);
        // 40 plain, 33 double, 20 vain (tells 17), a lodger of 49 and an aunt of 10 years.
        EldestAge x = Check.told("one plain 10 0 0;one double 17 0 0;one vain 30 0 0;one lodger 1 0 0;one aunt 40 0 0;"
            + "one lodger 1 0 1;one vain 48 0 2;one double 20 0 3;one vain 46 0 3;");
        int[] zero = {40, 10, 40 + 66 + 17 + 10, 133 / 5};
        int[] three = {30, 1, 61, 20};
        for (int v = 0; v < 4; v++) {
            x.law(v);
            due("p17 kinds " + v, x.number(0, day), zero[v]);
            due("p17 a lodger is nobody " + v, x.number(1, day), NONE);
            due("p17 vain, 0 at least " + v, x.number(2, day), 0);
            due("p17 a double with a vain " + v, x.number(3, day), three[v]);
        }
        due("p15 a vain one's years", x.years(2, day), 20);
        due("p17 vain of three years", x.number(2, day + 360), 0);
        x.law(0);
        due("p17 vain of three", x.number(2, Check.day(51, 0)), 0);
        due("p17 vain of four", x.number(2, Check.day(52, 0)), 1);
    }

    private static void atAndTwins() {
        EldestAge x = Check.told("houses 6;one plain 10 0 0;one plain 10 9 2;one plain 12 0 3;one plain 12 0 5;one lodger 1 1 4;");
        int day = Check.day(20, 100);
        due("p18", x.at(10, day), 5);
        due("p18", x.at(8, day), 8 + 32);
        due("p18", x.at(9, day), 0);
        due("p18", x.at(2000000000, day), 0);
        due("p18 without", x.at(-1, day), 2 + 16);
        due("p18 without", x.at(Integer.MIN_VALUE, day), 2 + 16);
        due("p18 without by -3", x.at(-3, day), 2 + 16);
        due("p18 NONE is no number", x.at(-4, 0), 63);
        due("p18 0 is one", x.at(0, 3600), 1);
        due("p18", x.at(1, -1), BAD);
        due("p18", x.at(1, 36000), BAD);
        due("p19", x.twins(day), 1 + 4 + 8 + 32);
        due("p19 a birthday", x.twins(Check.day(20, 5)), 8 + 32);
        due("p19 those without are none", x.twins(0), 0);
        due("p19", x.twins(-1), BAD);
        due("p19", x.twins(36000), BAD);
        EldestAge three = Check.told("one plain 1 0 0;one plain 1 0 1;one plain 1 0 3;");
        due("p19 three", three.twins(400), 11);
    }

    private static void changing() {
        EldestAge x = Check.told("one plain 10 100 0 died 12 50;one plain 11 200 0;one vain 20 0 1;move 30 7 1 2;");
        due("p20 born", x.changes(0, 0), 3700);
        due("p20 birthday", x.changes(0, 3700), 4060);
        due("p20 that day itself", x.changes(0, 4059), 4060);
        due("p20 dead: the next eldest", x.changes(0, 4060), 12 * 360 + 50);
        due("p20 he had 0", x.changes(0, 12 * 360 + 50), 12 * 360 + 200);
        due("p20 he moves", x.changes(0, 30 * 360), 30 * 360 + 7);
        due("p20 to there", x.changes(2, 0), 30 * 360 + 7);
        due("p20 nobody then", x.changes(0, 30 * 360 + 7), NONE);
        due("p20 vain has 0 for four years", x.changes(1, 7200), 7200 + 4 * 360);
        due("p20 last year", x.changes(2, LAST - 1), NONE);
        due("p20 last day", x.changes(2, LAST), NONE);
        due("p20", x.changes(4, 0), BAD);
        due("p20", x.changes(-1, 0), BAD);
        due("p20", x.changes(0, -1), BAD);
        due("p20", x.changes(0, 36000), BAD);
        EldestAge edge = Check.told("one plain 99 359 0;one plain 0 0 1 died 99 359;");
        due("p20 born on the last day", edge.changes(0, 0), LAST);
        due("p20 dead on the last day", edge.changes(1, Check.day(99, 0)), LAST);
        // Two changes of one day take away one another.
        EldestAge swap = Check.told("one plain 10 0 0;one plain 10 0 1;move 20 5 0 2;move 20 5 1 0;");
        due("p20 a swap is none", swap.changes(0, 20 * 360), 21 * 360);
        EldestAge mean = Check.told("law mean;one plain 10 0 0;one plain 10 100 0;");
        due("p20 mean", mean.changes(0, 20 * 360 + 100), 21 * 360 + 100);
    }

    private static void order() {
        EldestAge x = Check.told("houses 6;one plain 10 0 5;one plain 20 0 1;one plain 20 9 4;one plain 30 0 2;");
        int[] due = {5, 1, 4, 2, 0, 3};
        for (int i = 0; i < 6; i++) {
            due("p21 " + i, x.descending(Check.day(50, 20), i), due[i]);
            due("p21 nobody " + i, x.descending(0, i), i);
        }
        due("p21 0 stands ahead of none", x.descending(3600, 0), 5);
        due("p21", x.descending(0, 6), BAD);
        due("p21", x.descending(0, -1), BAD);
        due("p21", x.descending(-1, 0), BAD);
        due("p21", x.descending(36000, 0), BAD);
    }

    private static void sums() {
        EldestAge x = Check.told("one plain 10 0 0;one plain 20 0 0;one double 30 0 1;one lodger 1 0 3;");
        int day = Check.day(40, 0);
        int[] due = {40 - 10 + 10, 20 + 10, 50 + 20, 25 + 10};
        for (int v = 0; v < 4; v++) {
            due("p22 law " + v, x.all(day, v), due[v]);
        }
        due("p22 law stays", x.rule(1), 0);
        due("p22 nobody", x.all(0, 2), 0);
        due("p22", x.all(day, 4), BAD);
        due("p22", x.all(day, -1), BAD);
        due("p22", x.all(-1, 0), BAD);
        due("p22", x.all(36000, 0), BAD);
    }

    private static void letters() {
        EldestAge x = Check.told("one plain 10 0 0;one plain 10 100 1;one plain 9 200 2;one plain 10 0 3 died 20 50;");
        int sent = Check.day(20, 0);
        int brought = Check.day(20, 100);
        due("p23 means", x.letter(10, sent, brought, 0), 1 + 4 + 8);
        due("p23 brought", x.letter(10, sent, brought, 1), 1 + 2 + 4);
        due("p23 not brought", x.letter(10, sent, brought, 2), 8);
        due("p23 backwards", x.letter(10, brought, sent, 2), 2);
        due("p23 that day", x.letter(10, sent, sent, 1), 1 + 4 + 8);
        due("p23 999", x.letter(999, sent, brought, 0), 0);
        due("p23 0", x.letter(0, 3600, 3600, 0), 1 + 8 + 4);
        due("p23", x.letter(-1, sent, brought, 0), BAD);
        due("p23", x.letter(1000, sent, brought, 0), BAD);
        due("p23", x.letter(10, -1, brought, 0), BAD);
        due("p23", x.letter(10, 36000, brought, 0), BAD);
        due("p23", x.letter(10, sent, -1, 0), BAD);
        due("p23", x.letter(10, sent, 36000, 0), BAD);
        due("p23", x.letter(10, sent, brought, 3), BAD);
        due("p23", x.letter(10, sent, brought, -1), BAD);
    }

    private static void rounds() {
        // House 2 has 10 at first, 0 has 9 and gets 10 on the second day; 1 and 3 have 5 from the third on.
        EldestAge x = Check.told("one plain 10 0 2;one plain 10 101 0;one plain 15 0 3;one plain 15 0 1;");
        int day = Check.day(20, 100);
        int[] due = {2, 0, 1, 3, NONE};
        for (int i = 0; i < 5; i++) {
            due("p24 " + i, x.round(day, i), due[i]);
        }
        due("p24 7", x.round(day, 7), NONE);
        due("p24 8", x.round(day, 8), BAD);
        due("p24 -1", x.round(day, -1), BAD);
        due("p24 day", x.round(-1, 0), BAD);
        due("p24 day", x.round(36000, 0), BAD);
        due("p24 the last day, the least of several", x.round(LAST, 0), 0);
        due("p24 no such day", x.round(LAST, 1), NONE);
        // He has been with the first when the second is born: the round ended the day ahead.
        EldestAge gap = Check.told("one plain 10 0 0;one plain 20 2 1;");
        due("p24 gap", gap.round(Check.day(20, 0), 0), 0);
        due("p24 gap ended it", gap.round(Check.day(20, 0), 1), NONE);
        due("p24 no gap", gap.round(Check.day(20, 1), 1), 1);
        // The one he comes for has moved, numbers change as he walks.
        EldestAge walk = Check.told("one plain 10 0 0;one plain 11 0 1;one plain 12 0 2;move 20 1 1 0;");
        due("p24 walk", walk.round(Check.day(20, 0), 0), 0);
        due("p24 walk, 1 is without", walk.round(Check.day(20, 0), 1), 2);
        due("p24 walk ends", walk.round(Check.day(20, 0), 2), NONE);
    }

    private static void wanting() {
        EldestAge x = Check.told("houses 2;");
        due("p25", x.want(2, 0), BAD);
        due("p25", x.want(-1, 0), BAD);
        due("p25", x.want(0, -1), BAD);
        due("p25", x.want(0, 1000), BAD);
        for (int i = 1; i <= 4; i++) {
            due("p25 " + i, x.want(i % 2, 999), i);
        }
        due("p25 full", x.want(0, 0), FULL);
        due("p25 bad ahead of full", x.want(2, 0), BAD);
        due("p26", x.content(), 4);
        due("p26 none", x.content(), 0);
        due("p25 again", x.want(0, 0), 1);
    }

    private static void fetching() {
        // On 50 0: plain 40 in 0, aunts of 30 in 1, 20 in 1, a lodger in 2.
        EldestAge x = Check.told("one plain 10 0 0;one aunt 20 0 1;one aunt 30 0 1;one lodger 1 0 2;");
        int day = Check.day(50, 0);
        due("p27 nothing wanted", x.fetch(day, false, 0), 0);
        due("p27 where he is", x.fetch(day, false, 11), 1);
        due("p27 alone", x.fetch(day, true, 0), 0);
        x.want(2, 20);
        due("p27 one goes", x.fetch(day, false, 0), 1);
        due("p27 she stays", x.fetch(day, false, 11), 1);
        due("p27 she goes", x.fetch(day, false, 12), 2);
        x.want(3, 30);
        due("p27 two go", x.fetch(day, false, 0), 2);
        due("p27 to 3", x.fetch(day, false, 11), 3);
        due("p27 to 2", x.fetch(day, false, 12), 2);
        due("p27 by itself", x.lives(1, day), 1);
        due("p27 by itself", x.number(1, day), 30);
        x.want(1, 30);
        due("p27 can not be", x.fetch(day, false, 0), NONE);
        due("p27 can not be", x.fetch(day, false, 12), NONE);
        x.content();
        x.want(0, 41);
        due("p27 no such number", x.fetch(day, false, 0), NONE);
        x.content();
        x.law(2);
        x.want(0, 60);
        due("p27 sum", x.fetch(day, false, 0), 1);
        due("p27 sum", x.fetch(day, false, 12), 0);
        x.content();
        x.want(0, 90);
        due("p27 sum of all", x.fetch(day, false, 0), 2);
        x.law(3);
        due("p27 mean", x.fetch(day, false, 0), NONE);
        x.content();
        x.want(0, 35);
        due("p27 mean", x.fetch(day, false, 11), 0);
        x.content();
        x.law(1);
        x.want(0, 20);
        due("p27 youngest", x.fetch(day, false, 12), 0);
    }

    private static void fetchingByOrder() {
        int day = Check.day(50, 0);
        // Two aunts of one age: the first way by the first aunt's house, then the second's.
        EldestAge x = Check.told("one aunt 20 0 1;one aunt 20 0 1;");
        x.want(3, 30);
        due("p27 one of two", x.fetch(day, false, 0), 1);
        due("p27 the first stays in 1", x.fetch(day, false, 10), 1);
        due("p27 the second goes to 3", x.fetch(day, false, 11), 3);
        x.content();
        x.want(0, 30);
        due("p27 the first goes to 0", x.fetch(day, false, 10), 0);
        due("p27 the second stays", x.fetch(day, false, 11), 1);
        // Twins: the fewest are asked by ALONE.
        EldestAge y = Check.told("one aunt 20 0 1;one aunt 20 0 3;");
        due("p27 not alone", y.fetch(day, false, 0), 0);
        due("p27 alone", y.fetch(day, true, 0), 1);
        due("p27 alone: the first stays in 1", y.fetch(day, true, 10), 1);
        due("p27 alone: the second comes", y.fetch(day, true, 11), 1);
        due("p27 those without are no twins", y.twins(day), 10);
        EldestAge z = Check.told("one plain 20 0 1;one plain 20 0 3;one aunt 60 0 0;");
        due("p27 alone can not be", z.fetch(day, true, 0), NONE);
        due("p27 she does not live yet", z.fetch(day, false, 12), BAD);
        // She has moved: where she is counts, not the house that was told.
        EldestAge w = Check.told("one aunt 20 0 1;move 30 0 0 2;");
        due("p27 moved", w.fetch(day, false, 10), 2);
        w.want(2, 30);
        due("p27 moved stays", w.fetch(day, false, 0), 0);
        w.content();
        w.want(1, 30);
        due("p27 moved goes", w.fetch(day, false, 0), 1);
        // Fewer movers count ahead of lower houses.
        EldestAge v = Check.told("law sum;one aunt 20 0 3;one aunt 30 0 3;one aunt 40 0 3;");
        v.want(0, 30);
        due("p27 one rather than two", v.fetch(day, false, 0), 1);
        due("p27 she of 30", v.fetch(day, false, 10), 0);
        v.content();
        v.want(3, 0);
        due("p27 nobody there has no number", v.fetch(day, false, 0), NONE);
    }

    private static void fetchingRefused() {
        EldestAge first = Check.told("one aunt 1 0 0;one aunt 1 0 0;one aunt 1 0 0;one aunt 1 0 0;one aunt 1 0 0 died 9 0;");
        due("p27 five from 0 on", first.fetch(Check.day(8, 0), false, 0), STATE);
        due("p27 four from 0 on", first.fetch(Check.day(9, 0), false, 0), 0);
        EldestAge x = Check.told("one plain 1 0 0;one aunt 10 0 0;one aunt 10 0 0;one aunt 10 0 0 died 20 0;one aunt 10 0 0;one aunt 11 0 0;");
        int four = Check.day(10, 0);
        int five = Check.day(11, 0);
        due("p27 four", x.fetch(four, false, 0), 0);
        due("p27 five", x.fetch(five, false, 0), STATE);
        due("p27 five, one", x.fetch(five, false, 11), STATE);
        due("p27 four again", x.fetch(Check.day(20, 0), false, 0), 0);
        due("p27 dead", x.fetch(Check.day(20, 0), false, 13), BAD);
        due("p27 not an aunt", x.fetch(four, false, 10), BAD);
        due("p27 bad ahead of state", x.fetch(five, false, 10), BAD);
        due("p27 not born", x.fetch(four, false, 15), BAD);
        due("p27 no one", x.fetch(four, false, 16), BAD);
        due("p27 no one", x.fetch(four, false, 20), BAD);
        due("p27 what", x.fetch(four, false, 1), BAD);
        due("p27 what", x.fetch(four, false, 9), BAD);
        due("p27 what", x.fetch(four, false, -1), BAD);
        due("p27 what", x.fetch(four, false, Integer.MIN_VALUE), BAD);
        due("p27 what", x.fetch(four, false, Integer.MAX_VALUE), BAD);
        due("p27 day", x.fetch(-1, false, 0), BAD);
        due("p27 day", x.fetch(36000, false, 0), BAD);
        x.want(0, 5);
        due("p27 state ahead of none", x.fetch(five, false, 0), STATE);
    }

    private static void expecting() {
        EldestAge x = Check.told("houses 2;");
        due("p28", x.expect(2, 0, 0), BAD);
        due("p28", x.expect(-1, 0, 0), BAD);
        due("p28", x.expect(0, -1, 0), BAD);
        due("p28", x.expect(0, 0, 36000), BAD);
        due("p28", x.expect(0, 36000, 36000), BAD);
        due("p28", x.expect(0, 9, 8), BAD);
        due("p28 one day", x.expect(1, 9, 9), 1);
        due("p28", x.expect(0, 0, LAST), 2);
        due("p28", x.expect(0, 5, 6), 3);
        due("p28", x.expect(0, 5, 6), 4);
        due("p28 full", x.expect(0, 5, 6), FULL);
        due("p28 bad ahead of full", x.expect(0, 6, 5), BAD);
        due("p9", x.expected(0, 0), 1);
        due("p9", x.expected(1, 1), 0);
        due("p9", x.expected(1, 2), LAST);
    }

    private static void canBe(EldestAge x, int house, int day, int least, int most, int without) {
        due("p29 least " + house + " " + day, x.can(house, day, 0), least);
        due("p29 greatest " + house + " " + day, x.can(house, day, 1), most);
        due("p29 without " + house + " " + day, x.can(house, day, 2), without);
    }

    private static void canBe() {
        EldestAge x = new EldestAge();
        x.expect(0, 3600, 4400);
        canBe(x, 0, 3599, NONE, NONE, 1);
        canBe(x, 0, 3600, 0, 0, 1);
        canBe(x, 0, 3960, 0, 1, 1);
        canBe(x, 0, 4399, 0, 2, 1);
        canBe(x, 0, 4400, 0, 2, 0);
        canBe(x, 0, 4759, 0, 3, 0);
        canBe(x, 0, 4760, 1, 3, 0);
        canBe(x, 1, 4400, NONE, NONE, 1);
        due("p29 not born by it", x.number(0, 4760), NONE);
        due("p29 nobody more", x.rule(2), 0);
        due("p29", x.can(4, 0, 0), BAD);
        due("p29", x.can(-1, 0, 0), BAD);
        due("p29", x.can(0, -1, 0), BAD);
        due("p29", x.can(0, 36000, 0), BAD);
        due("p29", x.can(0, 0, 3), BAD);
        due("p29", x.can(0, 0, -1), BAD);
        // Of 20 years at 30 0, and one who may come: of all laws.
        EldestAge y = Check.told("one plain 10 0 0;one lodger 1 0 0;expect 0 20 0 40 0;expect 1 0 0 9 0;");
        int day = Check.day(30, 0);
        canBe(y, 0, day, 20, 20, 0);
        y.law(1);
        canBe(y, 0, day, 0, 20, 0);
        y.law(2);
        canBe(y, 0, day, 20, 30, 0);
        y.law(3);
        canBe(y, 0, day, 10, 20, 0);
        // Mean: to be one more of few years is less than to be none, of many more.
        EldestAge z = Check.told("law mean;one plain 25 0 0;expect 0 0 0 5 0;expect 0 28 0 35 0;");
        canBe(z, 0, day, (5 + 25 + 0) / 3, 35 / 2, 0);
        z.law(2);
        canBe(z, 0, day, 30, 5 + 30 + 2, 0);
        // Births of another house ahead of those asked about are not mixed with them.
        EldestAge other = Check.told("expect 1 0 0 0 0;expect 0 20 0 21 0;expect 2 1 0 1 0;");
        canBe(other, 0, day, 9, 10, 0);
        canBe(other, 1, day, 30, 30, 0);
        canBe(other, 2, day, 29, 29, 0);
        canBe(other, 3, day, NONE, NONE, 1);
        // Ten people and four births stand beside one another; each one moves by his own moves alone.
        EldestAge full = new EldestAge();
        for (int p = 0; p < 10; p++) {
            full.bear(0, Check.day(10, 0), 0);
        }
        full.law(2);
        full.move(Check.day(10, 0), 9, 1);
        for (int e = 0; e < 4; e++) {
            full.expect(0, Check.day(10, 0), Check.day(12, 0));
        }
        canBe(full, 0, Check.day(20, 0), 90 + 32, 90 + 40, 0);
        full.undo(0);
        due("p29 people", full.rule(2), 10);
    }

    private static void seeing() {
        EldestAge x = Check.told("one plain 10 0 0;");
        due("p30", x.see(4, 0, 0), BAD);
        due("p30", x.see(-1, 0, 0), BAD);
        due("p30", x.see(0, -1, 0), BAD);
        due("p30", x.see(0, 36000, 0), BAD);
        due("p30", x.see(0, 0, -1), BAD);
        due("p30", x.see(0, 0, 1000), BAD);
        due("p32 nothing", x.lie(), NONE);
        due("p30", x.see(0, 3960, 1), 1);
        due("p32 so", x.lie(), NONE);
        due("p30", x.see(0, 3959, 1), 2);
        due("p30", x.see(1, 3959, 0), 3);
        due("p32 the first", x.lie(), 1);
        due("p31", x.forget(4), BAD);
        due("p31", x.forget(-1), BAD);
        due("p31 all", x.forget(3), 3);
        due("p31", x.forget(1), 3);
        due("p32", x.lie(), NONE);
        due("p30 without is no number", x.see(1, 3959, 0), 2);
        due("p32 without is no number", x.lie(), 1);
        for (int i = 3; i <= 8; i++) {
            due("p30 " + i, x.see(0, i, 999), i);
        }
        due("p30 full", x.see(0, 0, 0), FULL);
        due("p30 bad ahead of full", x.see(0, 0, 1000), BAD);
        due("p31 none", x.forget(0), 8);
        due("p31 none", x.forget(0), 0);
        due("p31 above", x.forget(1), BAD);
        x.see(0, 3960, 1);
        x.law(2);
        due("p32 by the law", x.lie(), NONE);
        x.bear(0, 3600, 0);
        due("p32 by the law", x.lie(), 0);
    }

    private static void bornIn(EldestAge x, int p, int many, int first, int last) {
        due("p33 how many " + p, x.born(p, 0), many);
        due("p33 first " + p, x.born(p, 1), first);
        due("p33 last " + p, x.born(p, 2), last);
    }

    private static void bornIn() {
        EldestAge x = Check.told("one plain 10 100 0;one plain 30 0 0;one plain 5 50 1 died 20 51;one plain 5 51 1 died 20 51;");
        bornIn(x, 0, 100, 0, 99);
        bornIn(x, 2, 21, 0, 20);
        bornIn(x, 3, 20, 0, 19);
        x.see(0, Check.day(40, 0), 29);
        bornIn(x, 0, 1, 10, 10);
        bornIn(x, 1, 89, 11, 99);
        due("p33 as it is", x.one(0, 1), 3700);
    }

    private static void bornInMore() {
        EldestAge y = Check.told("one plain 20 0 0;one plain 30 10 0;one vain 30 10 1;");
        int day = Check.day(50, 0);
        y.see(0, day, 30);
        // He of 30 10 can be born in whichever year that makes him no older than 30.
        bornIn(y, 1, 81, 19, 99);
        y.see(0, day + 10, 31);
        bornIn(y, 1, 1, 19, 19);
        bornIn(y, 0, 0, NONE, NONE);
        y.forget(0);
        y.see(1, day, 0);
        bornIn(y, 2, 4, 46, 49);
        due("p33", y.born(3, 0), BAD);
        due("p33", y.born(-1, 0), BAD);
        due("p33", y.born(0, 3), BAD);
        due("p33", y.born(0, -1), BAD);
    }

    /** The seed's rule, written down once more, for one year of people of told years. */
    private static int chance(int seed) {
        return (int) ((((long) seed * 1103515245L + 12345L) >> 16) & 0x7fff) % 100;
    }

    private static void later() {
        EldestAge x = null;
        int day = Check.day(50, 17);
        for (int seed = -300; seed < 300; seed++) {
            if (seed % 100 == 0) {
                x = Check.told("one plain 10 0 0;one vain 40 0 1;");
            }
            int next = (int) ((long) seed * 1103515245L + 12345L);
            int stay0 = chance(seed) < 40 ? 0 : 1;
            int stay1 = chance(next) < 10 ? 0 : 1;
            due("p34 live " + seed, x.later(seed, day, 1, 0), stay0 + stay1);
            due("p34 numbers " + seed, x.later(seed, day, 1, 1), stay0 * 40 + stay1 * 7);
        }
        due("p34 by itself", x.one(0, 3), NONE);
        due("p34", x.later(1, -1, 1, 0), BAD);
        due("p34", x.later(1, 36000, 1, 0), BAD);
        due("p34", x.later(1, 0, 0, 0), BAD);
        due("p34", x.later(1, 0, 41, 0), BAD);
        due("p34", x.later(1, 0, 1, 2), BAD);
        due("p34", x.later(1, 0, 1, -1), BAD);
        // Who has 0 years never dies; that the seed goes on is seen by the one behind him.
        EldestAge young = Check.told("one plain 50 0 0;one plain 10 0 1;one plain 51 0 2;");
        for (int seed = 0; seed < 100; seed++) {
            int next = (int) ((long) seed * 1103515245L + 12345L);
            due("p34 young " + seed, young.later(seed, day, 1, 0), 1 + (chance(next) < 40 ? 0 : 1));
        }
        // The YEAR's last DAY: a birthday then counts, who is born then LIVES then, who DIES then does not.
        EldestAge edge = Check.told("law sum;one plain 49 359 0;one plain 50 359 1;one plain 50 358 2 died 50 359;one plain 51 0 3;");
        for (int seed = 0; seed < 300; seed += 3) {
            int stays = chance(seed) < 1 ? 0 : 1;
            due("p34 edge " + seed, edge.later(seed, day, 1, 0), stays + 1);
            due("p34 edge sum " + seed, edge.later(seed, day, 1, 1), stays);
        }
        EldestAge dies = Check.told("one plain 50 1 0 died 51 0;");
        due("p34 who dies on the day behind it LIVES on the last of the DAYS", dies.later(1, day, 1, 0), 1);
        // Behind YEAR 99 there are none.
        due("p34 the last year", x.later(9, LAST, 40, 0), x.later(9, LAST, 1, 0));
        due("p34 a last day itself", x.later(9, Check.day(50, 359), 1, 1), x.later(9, Check.day(50, 0), 1, 1));
        // Of two years with the dead left out of the second.
        EldestAge pair = Check.told("one plain 0 0 0;one plain 30 0 1;");
        for (int seed = 0; seed < 200; seed++) {
            int s = (int) ((long) seed * 1103515245L + 12345L);
            boolean first = chance(seed) >= 50;
            boolean second = chance(s) >= 20;
            s = (int) ((long) s * 1103515245L + 12345L);
            if (first) {
                first = chance(s) >= 51;
                s = (int) ((long) s * 1103515245L + 12345L);
            }
            if (second) {
                second = chance(s) >= 21;
            }
            due("p34 pair " + seed, pair.later(seed, day, 2, 0), (first ? 1 : 0) + (second ? 1 : 0));
            due("p34 pair sum " + seed, pair.later(seed, day, 2, 1), (first ? 51 : 0) + (second ? 21 : 0));
        }
    }

    private static void images() {
        EldestAge x = Check.told(FAMILY);
        due("p35", x.keep(2), BAD);
        due("p35", x.keep(-1), BAD);
        due("p36", x.back(2), BAD);
        due("p36", x.back(-1), BAD);
        due("p36", x.back(1), STATE);
        due("p35", x.keep(1), 0);
        due("p36 the other", x.back(0), STATE);
        x.law(2);
        x.bear(0, 1, 1);
        x.die(1, 30000);
        x.move(30000, 0, 3);
        x.expect(1, 1, 2);
        x.see(0, 0, 0);
        x.want(0, 0);
        due("p35", x.keep(0), 0);
        due("p36", x.back(1), 5);
        due("p36 law", x.rule(1), 0);
        due("p36 people", x.rule(2), 5);
        due("p36 moves", x.rule(3), 1);
        due("p36 expected", x.rule(4), 1);
        due("p36 dies", x.one(1, 3), NONE);
        due("p36 seen stays", x.count(0), 1);
        due("p36 wants stay", x.count(1), 1);
        due("p36 another time", x.back(0), 6);
        due("p36 law", x.rule(1), 2);
        due("p36 dies", x.one(1, 3), 30000);
        due("p36 moves", x.moved(1, 2), 3);
        due("p36 expected", x.expected(1, 2), 2);
        // What is changed behind back() does not reach the image.
        x.die(1, 31000);
        x.undo(0);
        x.move(0, 0, 2);
        due("p36", x.back(0), 6);
        due("p36 image as it was", x.one(1, 3), 30000);
        due("p36 image as it was", x.moved(0, 0), 23410);
        due("p35 there was one", x.keep(0), 1);
        due("p41 images", x.count(2), 2);
    }

    private static void sheets() {
        EldestAge x = new EldestAge();
        due("p37", x.sheet(4, 0, 1), BAD);
        due("p37", x.sheet(-1, 0, 1), BAD);
        due("p37", x.sheet(0, 3, 1), BAD);
        due("p37", x.sheet(0, -1, 1), BAD);
        due("p37", x.sheet(0, 0, 41), BAD);
        due("p37 size", x.sheet(0, 0, -1), -14);
        due("p37 size", x.sheet(0, 0, Integer.MIN_VALUE), -14);
        due("p37 bad ahead of size", x.sheet(0, 3, -1), BAD);
        due("p37 still nothing", x.count(4), NONE);
        due("p37 no cells", x.sheet(0, 0, 0), 1);
        due("p38 no cells", x.lay(0, 0, 0), -12);
        due("p37 most", x.sheet(0, 0, 40), 1);
        due("p38", x.lay(0, 39, 0), 1);
        due("p38", x.lay(0, 40, 0), -12);
        due("p38", x.lay(0, -1, 0), -12);
        due("p38", x.lay(4, 0, 0), BAD);
        due("p38", x.lay(-1, 0, 0), BAD);
        due("p38", x.lay(3, 0, 0), -11);
        due("p38", x.lay(3, -1, 0), -11);
        due("p37 refused changes nothing", x.sheet(0, 1, -5), -14);
        due("p37 refused changes nothing", x.count(4), 40);
        // Cells are seen by the moves that are read of them: a day of 256 + 5 is 5 as a byte.
        EldestAge y = Check.told("one plain 0 0 0;one plain 0 0 0;");
        int[] days = {5, 256 * 256 + 256 + 5 - 256, 65536 + 9};
        y.sheet(0, 0, 3);
        y.lay(0, 0, 256 + 5);
        y.lay(0, 1, 512 + 1);
        y.lay(0, 2, -253);
        due("p38 byte", y.read(0, 0, 0, 1), 1);
        due("p38 byte", y.moved(0, 0), days[0]);
        due("p38 byte", y.moved(0, 1), 1);
        due("p38 byte", y.moved(0, 2), 3);
        y.lay(0, 0, 200);
        due("p38 a byte has a sign", y.read(0, 0, 0, 1), -20);
        y.sheet(1, 1, 3);
        y.lay(1, 0, 65536 + 300);
        due("p38 short", y.read(1, 1, 0, 1), 1);
        due("p38 short", y.moved(1, 0), 300);
        y.lay(1, 0, 35000);
        due("p38 a short has a sign", y.read(1, 1, 0, 1), -20);
        y.sheet(2, 2, 3);
        y.lay(2, 0, 35000);
        due("p38 int", y.read(2, 2, 0, 1), 1);
        due("p38 int", y.moved(2, 0), 35000);
        due("p37 new", y.sheet(2, 2, 4), 1);
        y.undo(0);
        due("p37 cells are 0", y.read(2, 2, 0, 1), 1);
        due("p37 cells are 0", y.moved(0, 0), 0);
    }

    private static void reading() {
        EldestAge x = Check.told("one plain 0 0 0;one plain 0 0 0;");
        due("p39", x.read(4, 0, 0, 0), BAD);
        due("p39", x.read(-1, 0, 0, 0), BAD);
        due("p39", x.read(0, 3, 0, 0), BAD);
        due("p39", x.read(0, -1, 0, 0), BAD);
        due("p39", x.read(0, 0, 0, 14), BAD);
        due("p39", x.read(0, 0, 0, -1), BAD);
        due("p39 null", x.read(0, 0, 0, 1), 0);
        due("p40 null", x.torn(), 1);
        due("p39 none of nothing", x.read(0, 0, 0, 0), 0);
        due("p40 none", x.torn(), 0);
        x.sheet(0, 1, 8);
        int[] cells = {100, 0, 1, 200, 1, 2, 300, 0};
        for (int i = 0; i < 8; i++) {
            x.lay(0, i, cells[i]);
        }
        due("p39 cast", x.read(0, 2, 99, 1), 0);
        due("p40 cast", x.torn(), 3);
        due("p40 a refused one leaves it", x.read(0, 1, 0, 14), BAD);
        due("p40 a refused one leaves it", x.torn(), 3);
        due("p39 two are whole", x.read(0, 1, 0, 3), 2);
        due("p40 index", x.torn(), 2);
        due("p39 they came", x.rule(3), 2);
        due("p39 in order", x.moved(0, 0), 100);
        due("p39 in order", x.moved(1, 2), 2);
        due("p39 none of another lane", x.read(0, 0, 0, 0), 0);
        due("p40 no fault", x.torn(), 0);
        due("p39 f above", x.read(0, 1, 8, 1), 0);
        due("p40 f above", x.torn(), 2);
        due("p39 n 0, f wherever", x.read(0, 1, -7, 0), 0);
        due("p39 f below", x.read(0, 1, -1, 1), 0);
        due("p40 f below", x.torn(), 2);
        due("p39 f far", x.read(0, 1, Integer.MAX_VALUE, 13), 0);
        due("p39 f far", x.read(0, 1, Integer.MIN_VALUE, 13), 0);
        due("p39 from a cell on", x.read(0, 1, 3, 1), 1);
        due("p40 none", x.torn(), 0);
        due("p39 from a cell on", x.moved(2, 0), 200);
        due("p39 nothing else", x.rule(3), 3);
    }

    private static void readingRefused() {
        EldestAge x = Check.told("houses 2;one plain 0 0 0;");
        x.sheet(3, 2, 40);
        x.sheet(2, 0, 0);
        x.read(2, 0, 0, 1);
        for (int i = 0; i < 13; i++) {
            x.lay(3, 3 * i, 10 * i);
        }
        due("p39 the 13th is too many", x.read(3, 2, 0, 13), -32);
        due("p39 then none came", x.rule(3), 0);
        due("p40 left", x.torn(), 2);
        due("p39 twelve", x.read(3, 2, 0, 12), 12);
        x.undo(1);
        due("p39 too early", x.read(3, 2, 0, 1), 1);
        due("p39 too early", x.read(3, 2, 3, 2), 2);
        x.undo(0);
        x.lay(3, 3, 5);
        x.lay(3, 6, 4);
        due("p39 too early by that ahead", x.read(3, 2, 0, 4), -22);
        due("p39 none came", x.rule(3), 0);
        x.lay(3, 7, 1);
        x.lay(3, 6, 20);
        due("p39 no such one", x.read(3, 2, 0, 4), -22);
        x.lay(3, 7, 0);
        x.lay(3, 8, 2);
        due("p39 no such house", x.read(3, 2, 0, 4), -22);
        due("p39 a fault comes ahead of what is not read", x.read(3, 2, 0, 2), 2);
        // Cells 39 on are not whole, ahead of it one is refused: the first met.
        x.undo(0);
        x.lay(3, 36, 36000);
        due("p39 refused ahead of the fault", x.read(3, 2, 36, 2), -20);
        x.lay(3, 36, 35999);
        due("p39 the fault behind", x.read(3, 2, 36, 2), 1);
        due("p40 the fault behind", x.torn(), 2);
    }

    private static void counting() {
        bornInMore();
        EldestAge x = new EldestAge();
        due("p41", x.count(-1), BAD);
        due("p41", x.count(5), BAD);
        x.see(0, 0, 0);
        x.see(0, 0, 0);
        x.want(0, 0);
        x.want(0, 0);
        x.want(0, 0);
        x.keep(1);
        x.feed(0);
        x.sheet(1, 0, 9);
        due("p41 cells are of sheet 0", x.count(4), NONE);
        x.sheet(0, 0, 0);
        int[] due = {2, 3, 1, 8, 0};
        for (int i = 0; i < 5; i++) {
            due("p41 " + i, x.count(i), due[i]);
        }
        x.keep(0);
        x.keep(0);
        due("p41 images", x.count(2), 2);
        due("face", EldestAge.BAD, -1);
        due("face", EldestAge.STATE, -2);
        due("face", EldestAge.FULL, -3);
        due("face", EldestAge.NONE, -4);
    }
}
