import java.util.function.ToIntFunction;

/** What the tests of boundary cases share. */
abstract class Bounds {
    static final int BAD = -1, STATE = -2, FULL = -3, NONE = -4;
    static final int LAST = 35999;
    /** Numbers far out, which no call of the document takes for a HOUSE, a ONE, a DAY or the like. */
    static final int[] FAR = {Integer.MIN_VALUE, Integer.MIN_VALUE + 1, Integer.MAX_VALUE - 1, Integer.MAX_VALUE};
    static final Check CHECK = new Check("BoundaryTest");

    static void due(String call, long got, long want) {
        CHECK.due(call, got, want);
    }

    /** The numbers just below and just above the ones that are good, and some far out, are all answered so. */
    static void outside(String call, EldestAge x, int low, int high, int want, Asked asked) {
        due(call + " " + (low - 1), asked.of(x, low - 1), want);
        due(call + " " + (high + 1), asked.of(x, high + 1), want);
        for (int far : FAR) {
            due(call + " " + far, asked.of(x, far), want);
        }
    }

    /** A call with one number left open. */
    interface Asked {
        int of(EldestAge x, int v);
    }

    /** A call that is refused. */
    record Refusal(String call, int answer, ToIntFunction<EldestAge> made) {
    }

    static EldestAge told(String text) {
        return Check.told(text);
    }

    static int day(int year, int day) {
        return Check.day(year, day);
    }

    static String times(int n, String text) {
        return text.repeat(n);
    }
}
