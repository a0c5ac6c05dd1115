/** What the tests share: answers compared, texts fed. */
final class Check {
    private final String name;
    private int checked = 0;
    private int wrong = 0;

    Check(String name) {
        this.name = name;
    }

    void due(String call, long got, long want) {
        checked++;
        if (got != want) {
            wrong++;
            System.out.println(name + ": " + call + " answered " + got + ", due is " + want);
        }
    }

    void holds(String what, boolean so) {
        due(what, so ? 1 : 0, 1);
    }

    int checked() {
        return checked;
    }

    int wrong() {
        return wrong;
    }

    void finish() {
        System.out.println(name + ": " + checked + " answers, " + wrong + " not as due");
        if (wrong != 0) {
            System.exit(1);
        }
    }

    /** Feeds a text of signs 0 to 255 and cuts what the last eight bytes have too many. */
    static void feed(EldestAge x, String text) {
        int ahead = x.count(3);
        for (int i = 0; i < text.length(); i += 8) {
            long v = 0;
            for (int j = 0; j < 8; j++) {
                v = v << 8 | (i + j < text.length() ? text.charAt(i + j) & 255 : ' ');
            }
            x.feed(v);
        }
        x.end(ahead + text.length());
    }

    static EldestAge told(String text) {
        EldestAge x = new EldestAge();
        feed(x, text);
        int lines = x.street();
        if (lines < 0) {
            throw new IllegalStateException("the test's own text is not taken: " + text + " " + lines);
        }
        return x;
    }

    static int day(int year, int day) {
        return year * 360 + day;
    }
}
