import java.util.ArrayList;
import java.util.Arrays;
import java.util.List;
import java.util.regex.Matcher;
import java.util.regex.Pattern;

/** Many runs of calls compared with a model that goes day by day and tries everything. */
public final class ModelTest {
    private static final int BAD = -1, STATE = -2, FULL = -3, NONE = -4;
    private static final int DAYS = 36000;
    private static final Check CHECK = new Check("ModelTest");

    /** What an object is used for, and what the dearest step of a run and its end can take of it. */
    private static final int MOST_CALLS = 512, DEAREST_STEP = 248;

    private static int calls = 0;
    private static long dice = 20261119L;

    /** The same row of numbers each time: a run that fails can be run again. */
    private static int roll(int n) {
        dice = dice * 6364136223846793005L + 1442695040888963407L;
        return (int) ((dice >>> 33) % n);
    }

    private static final class One {
        int kind, born, house, dies = -4;

        One copy() {
            One o = new One();
            o.kind = kind;
            o.born = born;
            o.house = house;
            o.dies = dies;
            return o;
        }
    }

    private static final class Model {
        int houses = 4, law = 0, tapeLength = 0, lastFault = 0, torn = 0;
        List<One> people = new ArrayList<>();
        List<int[]> moves = new ArrayList<>();
        List<int[]> births = new ArrayList<>();
        List<int[]> seen = new ArrayList<>();
        List<int[]> wants = new ArrayList<>();
        Model[] images = new Model[2];

        Model copy() {
            Model m = new Model();
            m.houses = houses;
            m.law = law;
            for (One o : people) {
                m.people.add(o.copy());
            }
            m.moves.addAll(moves);
            m.births.addAll(births);
            m.seen.addAll(seen);
            m.wants.addAll(wants);
            return m;
        }

        boolean alive(One o, int day) {
            return day >= o.born && (o.dies == NONE || day < o.dies);
        }

        int years(One o, int day) {
            int years = 0;
            while (o.born + 360 * (years + 1) <= day) {
                years++;
            }
            return years;
        }

        int lives(int p, int day) {
            int house = people.get(p).house;
            for (int[] m : moves) {
                if (m[1] == p && m[0] <= day) {
                    house = m[2];
                }
            }
            return house;
        }

        Integer number(int house, int day, int byLaw) {
            int[] forced = new int[people.size()];
            for (int p = 0; p < forced.length; p++) {
                forced[p] = lives(p, day);
            }
            return number(house, day, byLaw, forced);
        }

        Integer number(int house, int day, int byLaw, int[] where) {
            List<Integer> told = new ArrayList<>();
            for (int p = 0; p < people.size(); p++) {
                One o = people.get(p);
                if (!alive(o, day) || where[p] != house || o.kind == 4) {
                    continue;
                }
                int tells = years(o, day);
                if (o.kind == 2) {
                    tells = tells < 3 ? 0 : tells - 3;
                }
                told.add(tells);
                if (o.kind == 3) {
                    told.add(tells);
                }
            }
            if (told.isEmpty()) {
                return null;
            }
            int sum = told.stream().mapToInt(i -> i).sum();
            switch (byLaw) {
                case 0: return told.stream().mapToInt(i -> i).max().getAsInt();
                case 1: return told.stream().mapToInt(i -> i).min().getAsInt();
                case 2: return sum;
                default: return Math.floorDiv(sum, told.size());
            }
        }

        Integer[] numbers(int day) {
            Integer[] all = new Integer[houses];
            for (int h = 0; h < houses; h++) {
                all[h] = number(h, day, law);
            }
            return all;
        }

        int numberOrNone(int house, int day) {
            Integer n = number(house, day, law);
            return n == null ? NONE : n;
        }

        int at(int n, int day) {
            int bits = 0;
            for (int h = 0; h < houses; h++) {
                Integer has = number(h, day, law);
                if (has == null ? n < 0 : has == n) {
                    bits += 1 << h;
                }
            }
            return bits;
        }

        int twins(Integer[] all) {
            int bits = 0;
            for (int a = 0; a < all.length; a++) {
                for (int b = 0; b < all.length; b++) {
                    if (a != b && all[a] != null && all[a].equals(all[b])) {
                        bits |= 1 << a;
                    }
                }
            }
            return bits;
        }

        int changes(int house, int day) {
            int now = numberOrNone(house, day);
            for (int d = day + 1; d < DAYS; d++) {
                if (numberOrNone(house, d) != now) {
                    return d;
                }
            }
            return NONE;
        }

        List<Integer> descending(int day) {
            Integer[] all = numbers(day);
            List<Integer> order = new ArrayList<>();
            for (int n = 2000; n >= 0; n--) {
                for (int h = 0; h < houses; h++) {
                    if (all[h] != null && all[h] == n) {
                        order.add(h);
                    }
                }
            }
            for (int h = 0; h < houses; h++) {
                if (all[h] == null) {
                    order.add(h);
                }
            }
            return order;
        }

        int all(int day, int byLaw) {
            int sum = 0;
            for (int h = 0; h < houses; h++) {
                Integer n = number(h, day, byLaw);
                sum += n == null ? 0 : n;
            }
            return sum;
        }

        List<Integer> round(int day) {
            List<Integer> been = new ArrayList<>();
            for (int d = day; d < DAYS; d++) {
                int next = -1;
                for (int h : descending(d)) {
                    if (next < 0 && !been.contains(h) && number(h, d, law) != null) {
                        next = h;
                    }
                }
                if (next < 0) {
                    return been;
                }
                been.add(next);
            }
            return been;
        }

        List<Integer> aunts(int day) {
            List<Integer> list = new ArrayList<>();
            for (int p = 0; p < people.size(); p++) {
                if (people.get(p).kind == 1 && alive(people.get(p), day)) {
                    list.add(p);
                }
            }
            return list;
        }

        int fetch(int day, boolean alone, int what) {
            List<Integer> aunts = aunts(day);
            if (what != 0 && !aunts.contains(what - 10)) {
                return BAD;
            }
            if (aunts.size() > 4) {
                return STATE;
            }
            int[] where = new int[people.size()];
            for (int p = 0; p < where.length; p++) {
                where[p] = lives(p, day);
            }
            int[] best = place(day, alone, aunts, 0, where.clone(), where, new int[] {99}, null);
            if (best == null) {
                return NONE;
            }
            return what != 0 ? best[what - 10] : differs(best, where);
        }

        private int differs(int[] a, int[] b) {
            int n = 0;
            for (int i = 0; i < a.length; i++) {
                n += a[i] == b[i] ? 0 : 1;
            }
            return n;
        }

        private int[] place(int day, boolean alone, List<Integer> aunts, int i, int[] now, int[] told, int[] fewest, int[] best) {
            if (i == aunts.size()) {
                if (differs(now, told) >= fewest[0] || !fits(day, alone, now)) {
                    return best;
                }
                fewest[0] = differs(now, told);
                return now.clone();
            }
            int[] found = best;
            for (int h = 0; h < houses; h++) {
                now[aunts.get(i)] = h;
                found = place(day, alone, aunts, i + 1, now, told, fewest, found);
            }
            return found;
        }

        private boolean fits(int day, boolean alone, int[] where) {
            for (int[] w : wants) {
                Integer n = number(w[0], day, law, where);
                if (n == null || n != w[1]) {
                    return false;
                }
            }
            Integer[] all = new Integer[houses];
            for (int h = 0; h < houses; h++) {
                all[h] = number(h, day, law, where);
            }
            return !alone || twins(all) == 0;
        }

        /** Every sort of years that a born one can have, or that he is not born yet. */
        void can(int house, int day, int e, Model with, int[] least, int[] most, boolean[] without) {
            if (e == births.size()) {
                Integer n = with.number(house, day, law);
                if (n == null) {
                    without[0] = true;
                } else {
                    least[0] = Math.min(least[0], n);
                    most[0] = Math.max(most[0], n);
                }
                return;
            }
            int[] b = births.get(e);
            List<Integer> asked = new ArrayList<>();
            int sortAhead = -9;
            for (int d = b[1]; d <= b[2]; d++) {
                int sort = b[0] != house ? 0 : d > day ? -1 : (day - d) / 360;
                if (sort != sortAhead) {
                    asked.add(d);
                    sortAhead = sort;
                }
            }
            for (int d : asked) {
                One o = new One();
                o.born = d;
                o.house = b[0];
                with.people.add(o);
                can(house, day, e + 1, with, least, most, without);
                with.people.remove(with.people.size() - 1);
            }
        }

        int lie() {
            for (int i = 0; i < seen.size(); i++) {
                if (numberOrNone(seen.get(i)[0], seen.get(i)[1]) != seen.get(i)[2]) {
                    return i;
                }
            }
            return NONE;
        }

        List<Integer> born(int p) {
            List<Integer> years = new ArrayList<>();
            for (int y = 0; y < 100; y++) {
                Model m = copy();
                One o = m.people.get(p);
                o.born = y * 360 + people.get(p).born % 360;
                if ((o.dies == NONE || o.born < o.dies) && m.lie() == NONE) {
                    years.add(y);
                }
            }
            return years;
        }

        int later(int seed, int day, int n, int what) {
            Model m = copy();
            int s = seed;
            int last = 0;
            for (int y = day / 360; y < Math.min(100, day / 360 + n); y++) {
                last = y * 360 + 359;
                for (One o : m.people) {
                    if (m.alive(o, last)) {
                        s = s * 1103515245 + 12345;
                        String bits = String.format("%32s", Integer.toBinaryString(s)).replace(' ', '0');
                        if (Integer.parseInt(bits.substring(1, 16), 2) % 100 < m.years(o, last)) {
                            o.dies = last;
                        }
                    }
                }
            }
            int live = 0;
            for (One o : m.people) {
                live += m.alive(o, last) ? 1 : 0;
            }
            return what == 0 ? live : m.all(last, law);
        }

        int move(int day, int p, int house) {
            if (day < 0 || day >= DAYS || p < 0 || p >= people.size() || house < 0 || house >= houses
                || (!moves.isEmpty() && day < moves.get(moves.size() - 1)[0])) {
                return BAD;
            }
            if (moves.size() == 12) {
                return FULL;
            }
            moves.add(new int[] {day, p, house});
            return moves.size();
        }
    }

    /** A text taken token by token; a fault leaves by this. */
    private static final class Fault extends RuntimeException {
        private static final long serialVersionUID = 1L;
        final int which, place;

        Fault(int which, int place) {
            this.which = which;
            this.place = place;
        }
    }

    private static final class Taker {
        private static final Pattern TOKEN = Pattern.compile(" *(?:([a-z]+)|([0-9]+)|(;)|($))");
        private static final List<String> LAWS = Arrays.asList("eldest", "youngest", "sum", "mean");
        private static final List<String> KINDS = Arrays.asList("plain", "aunt", "vain", "double", "lodger");
        final String text;
        final Matcher matcher;
        final Model m = new Model();
        int from = 0, at = 0, lines = 0;

        Taker(String text) {
            this.text = text;
            matcher = TOKEN.matcher(text);
        }

        String token() {
            matcher.region(from, text.length());
            if (!matcher.lookingAt()) {
                at = from;
                while (text.charAt(at) == ' ') {
                    at++;
                }
                throw new Fault(1, at);
            }
            from = matcher.end();
            for (int g = 1; g < 4; g++) {
                if (matcher.group(g) != null) {
                    at = matcher.start(g);
                    if (g == 2 && matcher.group(g).length() > 3) {
                        throw new Fault(1, at);
                    }
                    return matcher.group(g);
                }
            }
            at = text.length();
            return "";
        }

        int number(int most) {
            String t = token();
            need(t.matches("[0-9]+"), 2, at);
            need(Integer.parseInt(t) <= most, 3, at);
            return Integer.parseInt(t);
        }

        int date() {
            int year = number(99);
            return year * 360 + number(359);
        }

        void need(boolean so, int which, int place) {
            if (!so) {
                throw new Fault(which, place);
            }
        }

        void close() {
            need(token().equals(";"), 2, at);
        }

        Model take() {
            boolean houses = false;
            boolean law = false;
            for (String t = token(); !t.isEmpty(); t = token()) {
                if (t.equals("houses")) {
                    need(!houses, 4, at);
                    houses = true;
                    m.houses = number(8);
                    need(m.houses > 0, 3, at);
                    close();
                } else if (t.equals("law")) {
                    need(!law, 4, at);
                    law = true;
                    m.law = LAWS.indexOf(token());
                    need(m.law >= 0, 2, at);
                    close();
                } else if (t.equals("one")) {
                    need(m.people.size() < 10, 5, at);
                    one();
                } else if (t.equals("move")) {
                    need(m.moves.size() < 12, 5, at);
                    int day = date();
                    need(m.moves.isEmpty() || m.moves.get(m.moves.size() - 1)[0] <= day, 4, at);
                    int p = number(9);
                    m.moves.add(new int[] {day, p, number(7)});
                    close();
                } else if (t.equals("expect")) {
                    need(m.births.size() < 4, 5, at);
                    int house = number(7);
                    int begins = date();
                    int ends = date();
                    need(begins <= ends, 4, at);
                    m.births.add(new int[] {house, begins, ends});
                    close();
                } else {
                    throw new Fault(2, at);
                }
                lines++;
            }
            boolean whole = true;
            for (One o : m.people) {
                whole &= o.house < m.houses;
            }
            for (int[] move : m.moves) {
                whole &= move[1] < m.people.size() && move[2] < m.houses;
            }
            for (int[] birth : m.births) {
                whole &= birth[0] < m.houses;
            }
            need(whole, 6, text.length());
            return m;
        }

        void one() {
            One o = new One();
            o.kind = KINDS.indexOf(token());
            need(o.kind >= 0, 2, at);
            o.born = date();
            o.house = number(7);
            String t = token();
            if (t.equals("died")) {
                o.dies = date();
                need(o.dies > o.born, 4, at);
                close();
            } else {
                need(t.equals(";"), 2, at);
            }
            m.people.add(o);
        }
    }

    private static void due(String call, long got, long want) {
        calls++;
        CHECK.due(call, got, want);
    }

    private static String blanks() {
        int n = roll(6);
        return n < 4 ? "" : n == 4 ? " " : "  ";
    }

    private static String date(int years, int days) {
        return " " + roll(years) + " " + roll(days);
    }

    private static String someText() {
        String[] kinds = {"plain", "aunt", "vain", "double", "lodger"};
        String[] laws = {"eldest", "youngest", "sum", "mean"};
        StringBuilder b = new StringBuilder();
        int houses = 1 + roll(8);
        if (roll(8) != 0) {
            b.append(blanks()).append("houses").append(blanks()).append(houses).append(blanks()).append(";");
        } else {
            houses = 4;
        }
        if (roll(2) == 0) {
            b.append(blanks()).append("law ").append(laws[roll(4)]).append(blanks()).append(";");
        }
        int people = roll(20) == 0 ? 11 : roll(8);
        for (int p = 0; p < people && b.length() < 330; p++) {
            b.append("one ").append(roll(2) == 0 ? "aunt" : kinds[roll(5)]).append(blanks());
            b.append(date(60, 360)).append(" ").append(roll(houses));
            if (roll(4) == 0) {
                b.append(" died").append(date(100, 360));
            }
            b.append(blanks()).append(";");
        }
        int year = 0;
        for (int m = roll(3); m > 0 && people > 0 && b.length() < 350; m--) {
            year = Math.min(99, year + roll(50));
            b.append("move ").append(year).append(" ").append(roll(360)).append(" ").append(roll(people));
            b.append(" ").append(roll(houses)).append(";");
        }
        for (int e = roll(3); e > 0 && b.length() < 360; e--) {
            int from = roll(70);
            b.append("expect ").append(roll(houses)).append(" ").append(from).append(" ").append(roll(360));
            b.append(" ").append(from + roll(4)).append(" ").append(roll(360)).append(";");
        }
        return b.toString();
    }

    private static String spoilt(String text) {
        if (text.isEmpty() || roll(2) == 0) {
            return text;
        }
        String signs = " ;0123456789abdelmnoprstuvwxyzA$9999;; \u00ff";
        StringBuilder b = new StringBuilder(text);
        for (int n = 1 + roll(2); n > 0 && b.length() > 0; n--) {
            int at = roll(b.length());
            switch (roll(4)) {
                case 0: b.deleteCharAt(at); break;
                case 1: b.insert(at, signs.charAt(roll(signs.length()))); break;
                case 2: b.setCharAt(at, signs.charAt(roll(signs.length()))); break;
                default: b.setLength(at + 1 > 20 && roll(3) == 0 ? at + 1 : b.length());
            }
        }
        return b.length() > 392 ? b.substring(0, 392) : b.toString();
    }

    private static Model tell(EldestAge x, Model was) {
        String text = spoilt(someText());
        Check.feed(x, text);
        calls += 2 + (text.length() + 7) / 8;
        Taker taker = new Taker(text);
        Model now = was;
        int answer;
        int fault = 0;
        try {
            now = taker.take();
            answer = taker.lines;
        } catch (Fault f) {
            answer = -10 - f.place;
            fault = f.which;
        }
        due("street of " + text, x.street(), answer);
        due("fault of " + text, x.fault(), fault);
        return now;
    }

    private static int day() {
        return roll(12) == 0 ? roll(2) * 35999 : roll(DAYS);
    }

    private static int dayNear(Model m) {
        if (!m.people.isEmpty() && roll(2) == 0) {
            One o = m.people.get(roll(m.people.size()));
            int d = o.born + 360 * roll(60) - roll(2);
            return d < 0 || d >= DAYS ? day() : d;
        }
        if (!m.moves.isEmpty() && roll(3) == 0) {
            return m.moves.get(roll(m.moves.size()))[0];
        }
        return day();
    }

    private static void change(EldestAge x, Model m) {
        int house = roll(m.houses);
        int day = day();
        switch (roll(5)) {
            case 0:
                int v = roll(4);
                due("law", x.law(v), m.law);
                m.law = v;
                break;
            case 1:
                One o = new One();
                o.kind = roll(5);
                o.born = roll(DAYS);
                o.house = house;
                int size = m.people.size();
                due("bear", x.bear(o.kind, o.born, house), size == 10 ? FULL : size);
                if (size < 10) {
                    m.people.add(o);
                }
                break;
            case 2:
                if (!m.people.isEmpty()) {
                    int p = roll(m.people.size());
                    One who = m.people.get(p);
                    due("die", x.die(p, day), day <= who.born ? BAD : who.dies);
                    who.dies = day <= who.born ? who.dies : day;
                }
                break;
            case 3:
                int p = roll(m.people.size() + 1);
                due("move", x.move(day, p, house), m.move(day, p, house));
                break;
            default:
                int to = day + roll(1500) - 100;
                boolean good = to >= day && to < DAYS;
                due("expect", x.expect(house, day, to), !good ? BAD : m.births.size() == 4 ? FULL : m.births.size() + 1);
                if (good && m.births.size() < 4) {
                    m.births.add(new int[] {house, day, to});
                }
        }
    }

    private static void askState(EldestAge x, Model m) {
        due("houses", x.rule(0), m.houses);
        due("law", x.rule(1), m.law);
        due("people", x.rule(2), m.people.size());
        due("moves", x.rule(3), m.moves.size());
        due("expected", x.rule(4), m.births.size());
        for (int p = 0; p < m.people.size(); p++) {
            One o = m.people.get(p);
            int[] told = {o.kind, o.born, o.house, o.dies};
            for (int what = 0; what < 4; what++) {
                due("one " + p + " " + what, x.one(p, what), told[what]);
            }
        }
        for (int what = 0; what < 3; what++) {
            for (int i = 0; i < m.moves.size(); i++) {
                due("moved " + i + " " + what, x.moved(i, what), m.moves.get(i)[what]);
            }
            for (int i = 0; i < m.births.size(); i++) {
                due("expected " + i + " " + what, x.expected(i, what), m.births.get(i)[what]);
            }
        }
    }

    private static void askDays(EldestAge x, Model m) {
        int day = dayNear(m);
        Integer[] all = m.numbers(day);
        for (int p = 0; p < m.people.size(); p++) {
            One o = m.people.get(p);
            due("years", x.years(p, day), m.alive(o, day) ? m.years(o, day) : NONE);
            due("lives", x.lives(p, day), m.alive(o, day) ? m.lives(p, day) : NONE);
        }
        List<Integer> order = m.descending(day);
        List<Integer> round = m.round(day);
        for (int h = 0; h < m.houses; h++) {
            due("number", x.number(h, day), all[h] == null ? NONE : all[h]);
            due("descending", x.descending(day, h), order.get(h));
        }
        for (int i = 0; i < 8; i++) {
            due("round " + i, x.round(day, i), i < round.size() ? round.get(i) : NONE);
        }
        int some = roll(m.houses);
        int n = all[some] == null ? roll(60) : all[some];
        due("at", x.at(n, day), m.at(n, day));
        due("at without", x.at(-1 - roll(9), day), m.at(-1, day));
        due("twins", x.twins(day), m.twins(all));
        for (int v = 0; v < 4; v++) {
            due("all", x.all(day, v), m.all(day, v));
        }
        int other = roll(2) == 0 ? dayNear(m) : Math.min(DAYS - 1, day + roll(400));
        due("letter", x.letter(n, day, other, 0), m.at(n, day));
        due("letter", x.letter(n, day, other, 1), m.at(n, other));
        due("letter", x.letter(n, day, other, 2), m.at(n, day) & ~m.at(n, other));
        due("changes", x.changes(some, day), m.changes(some, day));
    }

    private static void askFetched(EldestAge x, Model m) {
        int day = dayNear(m);
        due("content", x.content(), m.wants.size());
        m.wants.clear();
        List<Integer> aunts = m.aunts(day);
        int[] where = new int[m.people.size()];
        for (int p = 0; p < where.length; p++) {
            where[p] = aunts.contains(p) && roll(2) == 0 ? roll(m.houses) : m.lives(p, day);
        }
        for (int i = roll(4); i > 0; i--) {
            int house = roll(m.houses);
            Integer n = m.number(house, day, m.law, where);
            int[] want = {house, n == null || roll(6) == 0 ? roll(80) : n};
            m.wants.add(want);
            due("want", x.want(want[0], want[1]), m.wants.size());
        }
        boolean alone = roll(2) == 0;
        due("fetch", x.fetch(day, alone, 0), m.fetch(day, alone, 0));
        for (int p = 0; p < m.people.size(); p++) {
            if (aunts.size() < 4 || roll(3) == 0) {
                due("fetch " + p, x.fetch(day, alone, 10 + p), m.fetch(day, alone, 10 + p));
            }
        }
    }

    private static void askBirths(EldestAge x, Model m) {
        int house = m.births.isEmpty() ? roll(m.houses) : m.births.get(roll(m.births.size()))[0];
        int day = m.births.isEmpty() || roll(4) == 0 ? day() : m.births.get(roll(m.births.size()))[1] + roll(1500) - 100;
        day = Math.max(0, Math.min(DAYS - 1, day));
        int[] least = {100000};
        int[] most = {-1};
        boolean[] without = {false};
        m.can(house, day, 0, m.copy(), least, most, without);
        due("can least", x.can(house, day, 0), most[0] < 0 ? NONE : least[0]);
        due("can most", x.can(house, day, 1), most[0] < 0 ? NONE : most[0]);
        due("can be without", x.can(house, day, 2), without[0] ? 1 : 0);
    }

    private static void askSeen(EldestAge x, Model m) {
        if (roll(3) == 0) {
            int keep = roll(m.seen.size() + 1);
            due("forget", x.forget(keep), m.seen.size());
            m.seen = new ArrayList<>(m.seen.subList(0, keep));
        }
        int day = dayNear(m);
        int house = roll(m.houses);
        int is = m.numberOrNone(house, day);
        int n = is < 0 || roll(8) == 0 ? roll(60) : is;
        due("see", x.see(house, day, n), m.seen.size() == 8 ? FULL : m.seen.size() + 1);
        if (m.seen.size() < 8) {
            m.seen.add(new int[] {house, day, n});
        }
        due("lie", x.lie(), m.lie());
        if (!m.people.isEmpty()) {
            int p = roll(m.people.size());
            List<Integer> years = m.born(p);
            due("born", x.born(p, 0), years.size());
            due("born first", x.born(p, 1), years.isEmpty() ? NONE : years.get(0));
            due("born last", x.born(p, 2), years.isEmpty() ? NONE : years.get(years.size() - 1));
        }
        int seed = (roll(65536) << 16) + roll(65536);
        int from = dayNear(m);
        int many = 1 + (roll(3) == 0 ? roll(40) : roll(4));
        due("later", x.later(seed, from, many, 0), m.later(seed, from, many, 0));
        due("later", x.later(seed, from, many, 1), m.later(seed, from, many, 1));
    }

    private static Model image(EldestAge x, Model m) {
        int k = roll(2);
        if (roll(2) == 0) {
            due("keep", x.keep(k), m.images[k] == null ? 0 : 1);
            m.images[k] = m.copy();
            return m;
        }
        if (m.images[k] == null) {
            due("back", x.back(k), STATE);
            return m;
        }
        due("back", x.back(k), m.images[k].people.size());
        Model now = m.images[k].copy();
        now.seen = m.seen;
        now.wants = m.wants;
        now.images = m.images;
        now.torn = m.torn;
        return now;
    }

    private static void readSheet(EldestAge x, Model m) {
        int lane = roll(3);
        int size = roll(13);
        due("sheet", x.sheet(0, lane, size), 1);
        int[] row = new int[size];
        for (int i = 0; i < size; i++) {
            int v = i % 3 == 0 ? 25000 + i * 900 + roll(1000) : roll(i % 3 == 1 ? 2 : m.houses);
            row[i] = lane == 0 ? (byte) v : lane == 1 ? (short) v : v;
            due("lay", x.lay(0, i, v), 1);
        }
        int as = roll(6) == 0 ? roll(3) : lane;
        int f = roll(4) == 0 ? roll(8) - 2 : 0;
        int n = roll(5);
        Model trial = m.copy();
        int answer = 0;
        int fault = 0;
        for (int i = 0; i < n; i++) {
            int cell = f + 3 * i;
            fault = as != lane ? 3 : cell < 0 || cell + 2 >= size ? 2 : 0;
            if (fault != 0) {
                break;
            }
            if (trial.move(row[cell], row[cell + 1], row[cell + 2]) < 0) {
                answer = -20 - i;
                break;
            }
            answer++;
        }
        due("read", x.read(0, as, f, n), answer);
        if (answer >= 0) {
            m.moves = trial.moves;
            m.torn = fault;
        }
        due("torn", x.torn(), m.torn);
    }

    private static void run() {
        EldestAge x = new EldestAge();
        Model m = new Model();
        calls = 0;
        for (int step = 0; calls + DEAREST_STEP <= MOST_CALLS; step++) {
            if (step == 0 || roll(5) == 0) {
                Model now = tell(x, m);
                now.torn = m.torn;
                m = now;
            }
            change(x, m);
            askState(x, m);
            askDays(x, m);
            askFetched(x, m);
            askBirths(x, m);
            askSeen(x, m);
            m = image(x, m);
            readSheet(x, m);
        }
        due("seen", x.count(0), m.seen.size());
        due("wants", x.count(1), m.wants.size());
        due("images", x.count(2), (m.images[0] == null ? 0 : 1) + (m.images[1] == null ? 0 : 1));
        CHECK.holds("a run has at most 512 calls", calls <= MOST_CALLS);
    }

    public static void main(String[] args) {
        int runs = args.length > 0 ? Integer.parseInt(args[0]) : 400;
        for (int i = 0; i < runs; i++) {
            run();
        }
        for (int i = 0; i < 30 * runs; i++) {
            tell(new EldestAge(), new Model());
        }
        CHECK.finish();
    }
}
