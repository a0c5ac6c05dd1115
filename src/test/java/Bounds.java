import java.util.function.ToIntFunction;

/** What the tests of boundary cases share. */
abstract class Bounds {
    static final int BAD = -1, STATE = -2, FULL = -3, NONE = -4;
    static final int LAST = 35999;
    /** Numbers far out, which no call of the document takes for a HOUSE, a ONE, a DAY or the like. */
    static final int[] FAR = {Integer.MIN_VALUE, Integer.MIN_VALUE + 1, Integer.MAX_VALUE - 1, Integer.MAX_VALUE};
    static final Check CHECK = new Check("BoundaryTest");

    static void due(String call, long got, long want) {
        CHECK.due(call, got, want);
    }

    /** The numbers just below and just above the ones that are good, and some far out, are all answered so. */
    static void outside(String call, EldestAge x, int low, int high, int want, Asked asked) {
        due(call + " " + (low - 1), asked.of(x, low - 1), want);
        due(call + " " + (high + 1), asked.of(x, high + 1), want);
        for (int far : FAR) {
            due(call + " " + far, asked.of(x, far), want);
        }
    }

    /** A call with one number left open. */
    interface Asked {
        int of(EldestAge x, int v);
    }

    /** A call that is refused. */
    record Refusal(String call, int answer, ToIntFunction<EldestAge> made) {
    }

    static EldestAge told(String text) {
        return Check.told(text);
    }

    static int day(int year, int day) {
        return Check.day(year, day);
    }

    /** Two streets are told alike: all that is asked of their days is answered alike. */
    static void alike(String call, EldestAge x, EldestAge y) {
        x.want(2, 49);
        y.want(2, 49);
        for (int d : new int[] {0, day(50, 0), LAST}) {
            for (int house = 0; house < 4; house++) {
                due(call + ": number", x.number(house, d), y.number(house, d));
                due(call + ": changes", x.changes(house, d), y.changes(house, d));
                due(call + ": descending", x.descending(d, house), y.descending(d, house));
                due(call + ": round", x.round(d, house), y.round(d, house));
                due(call + ": least", x.can(house, d, 0), y.can(house, d, 0));
                due(call + ": greatest", x.can(house, d, 1), y.can(house, d, 1));
            }
            for (int n = 0; n < 2; n++) {
                due(call + ": fetch", x.fetch(d, n > 0, 0), y.fetch(d, n > 0, 0));
                due(call + ": at", x.at(n - 1, d), y.at(n - 1, d));
                due(call + ": all", x.all(d, n), y.all(d, n));
            }
            due(call + ": twins", x.twins(d), y.twins(d));
        }
        for (int seed = 0; seed < 20; seed++) {
            due(call + ": later " + seed, x.later(seed, day(50, 0), 2, 0), y.later(seed, day(50, 0), 2, 0));
            due(call + ": later, summed " + seed, x.later(seed, day(50, 0), 2, 1), y.later(seed, day(50, 0), 2, 1));
        }
    }

    static String times(int n, String text) {
        return text.repeat(n);
    }
}
