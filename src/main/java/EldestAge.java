/** Houses that bear as number the years of the eldest who lives there. */
public final class EldestAge {
    public static final int BAD = -1, STATE = -2, FULL = -3, NONE = -4;

    private static final int YEAR_DAYS = 360;
    private static final int YEARS = 100;
    private static final int DAYS = YEARS * YEAR_DAYS;
    private static final int MOST_HOUSES = 8;
    private static final int FIRST_HOUSES = 4;
    private static final int MOST_PEOPLE = 10;
    private static final int MOST_MOVES = 12;
    private static final int MOST_BIRTHS = 4;
    private static final int MOST_WANTS = 4;
    private static final int MOST_SEEN = 8;
    private static final int MOST_FETCHED = 4;
    private static final int MOST_NUMBER = 999;
    private static final int MOST_READ = 13;
    private static final int MOST_LATER = 40;
    private static final int IMAGES = 2;

    private static final int PLAIN = 0, AUNT = 1, VAIN = 2, DOUBLE = 3, LODGER = 4, KINDS = 5;
    private static final int ELDEST = 0, YOUNGEST = 1, SUM = 2, LAWS = 4;

    private static final int NULL_FAULT = 1, INDEX_FAULT = 2, CAST_FAULT = 3, SIZE_FAULT = 4;

    private final Town town = new Town();
    /** What is only asked, never told, is tried out on this copy. */
    private final Town trial = new Town();
    private final Town[] images = new Town[IMAGES];
    private final boolean[] kept = new boolean[IMAGES];
    private final Tape tape = new Tape();
    private final Told wants = new Told(MOST_WANTS);
    private final Told seen = new Told(MOST_SEEN);
    private final Search search = new Search();
    private final Sheets sheets = new Sheets();
    private int streetFault = 0;
    private int readFault = 0;

    public EldestAge() {
        for (int k = 0; k < IMAGES; k++) {
            images[k] = new Town();
        }
    }

    // ---- the text, what there is

    public int feed(long v) {
        return tape.append(v) ? tape.length : FULL;
    }

    public int end(int n) {
        if (n < 0 || n > tape.length) {
            return BAD;
        }
        int had = tape.length;
        tape.length = n;
        return had;
    }

    public int street() {
        // The draft is another one than the street itself, so that a fault leaves what was told.
        boolean taken = tape.tell(trial);
        tape.length = 0;
        streetFault = tape.fault;
        if (!taken) {
            return -10 - tape.faultPlace;
        }
        town.copyOf(trial);
        wants.size = 0;
        seen.size = 0;
        for (int k = 0; k < IMAGES; k++) {
            kept[k] = false;
        }
        return tape.lines;
    }

    public int fault() {
        return streetFault;
    }

    public int rule(int what) {
        switch (what) {
            case 0: return town.houses;
            case 1: return town.law;
            case 2: return town.people;
            case 3: return town.moves;
            case 4: return town.births;
            default: return BAD;
        }
    }

    public int one(int p, int what) {
        if (!town.isOne(p)) {
            return BAD;
        }
        switch (what) {
            case 0: return town.kind[p];
            case 1: return town.born[p];
            case 2: return town.home[p];
            case 3: return town.deathOf(p);
            default: return BAD;
        }
    }

    public int moved(int m, int what) {
        if (m < 0 || m >= town.moves) {
            return BAD;
        }
        switch (what) {
            case 0: return town.moveDay[m];
            case 1: return town.moveOne[m];
            case 2: return town.moveHouse[m];
            default: return BAD;
        }
    }

    public int expected(int e, int what) {
        if (e < 0 || e >= town.births) {
            return BAD;
        }
        switch (what) {
            case 0: return town.birthHouse[e];
            case 1: return town.birthFrom[e];
            case 2: return town.birthTo[e];
            default: return BAD;
        }
    }

    // ---- what is changed

    public int law(int v) {
        if (!isLaw(v)) {
            return BAD;
        }
        int was = town.law;
        town.law = v;
        return was;
    }

    public int bear(int kind, int day, int house) {
        if (kind < 0 || kind >= KINDS || !isDay(day) || !town.isHouse(house)) {
            return BAD;
        }
        if (town.people >= MOST_PEOPLE) {
            return FULL;
        }
        town.addOne(kind, day, house, DAYS);
        return town.people - 1;
    }

    public int die(int p, int day) {
        if (!town.isOne(p) || !isDay(day) || day <= town.born[p]) {
            return BAD;
        }
        int was = town.deathOf(p);
        town.dies[p] = day;
        return was;
    }

    public int move(int day, int p, int house) {
        return town.addMove(day, p, house);
    }

    public int undo(int n) {
        if (n < 0 || n > town.moves) {
            return BAD;
        }
        int had = town.moves;
        town.moves = n;
        return had;
    }

    // ---- days

    public int years(int p, int day) {
        if (!town.isOne(p) || !isDay(day)) {
            return BAD;
        }
        return town.isAlive(p, day) ? town.yearsOf(p, day) : NONE;
    }

    public int lives(int p, int day) {
        if (!town.isOne(p) || !isDay(day)) {
            return BAD;
        }
        return town.isAlive(p, day) ? town.homeOf(p, day) : NONE;
    }

    public int number(int house, int day) {
        if (!town.isHouse(house) || !isDay(day)) {
            return BAD;
        }
        return town.numberOf(house, day);
    }

    public int at(int n, int day) {
        if (!isDay(day)) {
            return BAD;
        }
        return town.having(n < 0 ? NONE : n, day);
    }

    public int twins(int day) {
        if (!isDay(day)) {
            return BAD;
        }
        return town.tallyOn(day).twinBits(town.houses, town.law);
    }

    public int changes(int house, int day) {
        if (!town.isHouse(house) || !isDay(day)) {
            return BAD;
        }
        int now = town.numberOf(house, day);
        int d = town.nextEvent(day);
        for (int step = 0; step < DAYS && d < DAYS; step++) {
            if (town.numberOf(house, d) != now) {
                return d;
            }
            d = town.nextEvent(d);
        }
        return NONE;
    }

    public int descending(int day, int i) {
        if (!isDay(day) || !town.isHouse(i)) {
            return BAD;
        }
        Tally tally = town.tallyOn(day);
        for (int house = 0; house < town.houses; house++) {
            if (tally.rankOf(house, town.houses, town.law) == i) {
                return house;
            }
        }
        return BAD;
    }

    public int all(int day, int law) {
        if (!isDay(day) || !isLaw(law)) {
            return BAD;
        }
        return town.allNumbers(day, law);
    }

    // ---- letters, rounds

    public int letter(int n, int sent, int brought, int what) {
        if (!isNumber(n) || !isDay(sent) || !isDay(brought) || what < 0 || what > 2) {
            return BAD;
        }
        int meant = town.having(n, sent);
        int reached = town.having(n, brought);
        if (what == 0) {
            return meant;
        }
        return what == 1 ? reached : meant & ~reached;
    }

    public int round(int day, int i) {
        if (!isDay(day) || i < 0 || i >= MOST_HOUSES) {
            return BAD;
        }
        int been = 0;
        for (int step = 0; step <= i && day + step < DAYS; step++) {
            int house = town.tallyOn(day + step).greatest(town.houses, town.law, been);
            if (house == NONE) {
                return NONE;
            }
            if (step == i) {
                return house;
            }
            been |= 1 << house;
        }
        return NONE;
    }

    // ---- fetched

    public int want(int house, int n) {
        if (!town.isHouse(house) || !isNumber(n)) {
            return BAD;
        }
        return wants.add(house, 0, n) ? wants.size : FULL;
    }

    public int content() {
        int had = wants.size;
        wants.size = 0;
        return had;
    }

    public int fetch(int day, boolean alone, int what) {
        int p = what - 10;
        if (!isDay(day) || (what != 0 && !town.isAuntOn(p, day))) {
            return BAD;
        }
        if (town.auntsOn(day) > MOST_FETCHED) {
            return STATE;
        }
        int fewest = search.fewest(town, day, wants, alone);
        if (fewest == NONE || what == 0) {
            return fewest;
        }
        return search.houseFor(p);
    }

    // ---- births

    public int expect(int house, int from, int to) {
        if (!town.isHouse(house) || !isDay(from) || !isDay(to) || to < from) {
            return BAD;
        }
        if (town.births >= MOST_BIRTHS) {
            return FULL;
        }
        town.addBirth(house, from, to);
        return town.births;
    }

    public int can(int house, int day, int what) {
        if (!town.isHouse(house) || !isDay(day) || what < 0 || what > 2) {
            return BAD;
        }
        trial.copyOf(town);
        int ways = trial.bearExpected(house);
        int least = NONE;
        int most = NONE;
        int without = 0;
        for (int way = 0; way < ways; way++) {
            trial.chooseBirths(town, house, day, way);
            int n = trial.numberOf(house, day);
            if (n == NONE) {
                without = 1;
            } else {
                least = least == NONE ? n : Math.min(least, n);
                most = Math.max(most, n);
            }
        }
        if (what == 2) {
            return without;
        }
        return what == 0 ? least : most;
    }

    // ---- seen

    public int see(int house, int day, int n) {
        if (!town.isHouse(house) || !isDay(day) || !isNumber(n)) {
            return BAD;
        }
        return seen.add(house, day, n) ? seen.size : FULL;
    }

    public int forget(int n) {
        if (n < 0 || n > seen.size) {
            return BAD;
        }
        int had = seen.size;
        seen.size = n;
        return had;
    }

    public int lie() {
        return seen.firstLie(town);
    }

    public int born(int p, int what) {
        if (!town.isOne(p) || what < 0 || what > 2) {
            return BAD;
        }
        int found = 0;
        int first = NONE;
        int last = NONE;
        trial.copyOf(town);
        for (int year = 0; year < YEARS; year++) {
            trial.born[p] = year * YEAR_DAYS + town.born[p] % YEAR_DAYS;
            if (trial.born[p] < town.dies[p] && seen.firstLie(trial) == NONE) {
                found++;
                first = first == NONE ? year : first;
                last = year;
            }
        }
        if (what == 0) {
            return found;
        }
        return what == 1 ? first : last;
    }

    // ---- years by a seed

    public int later(int seed, int day, int n, int what) {
        if (!isDay(day) || n < 1 || n > MOST_LATER || what < 0 || what > 1) {
            return BAD;
        }
        trial.copyOf(town);
        int year = day / YEAR_DAYS;
        int last = Math.min(year + n, YEARS) - 1;
        int chance = seed;
        for (int y = year; y <= last; y++) {
            chance = trial.passYearEnd(lastDayOf(y), chance);
        }
        int end = lastDayOf(last);
        return what == 0 ? trial.aliveOn(end) : trial.allNumbers(end, trial.law);
    }

    // ---- images, sheets

    public int keep(int k) {
        if (!isImage(k)) {
            return BAD;
        }
        int was = kept[k] ? 1 : 0;
        images[k].copyOf(town);
        kept[k] = true;
        return was;
    }

    public int back(int k) {
        if (!isImage(k)) {
            return BAD;
        }
        if (!kept[k]) {
            return STATE;
        }
        // The number of HOUSES is copied, too, but only street() changes it, and by it IMAGES are gone.
        town.copyOf(images[k]);
        return town.people;
    }

    public int sheet(int k, int lane, int n) {
        if (!sheets.isSheet(k) || !sheets.isLane(lane) || n > Sheets.MOST_CELLS) {
            return BAD;
        }
        if (n < 0) {
            return -10 - SIZE_FAULT;
        }
        sheets.renew(k, lane, n);
        return 1;
    }

    public int lay(int k, int i, int v) {
        if (!sheets.isSheet(k)) {
            return BAD;
        }
        int met = sheets.faultAt(k, sheets.lane[k], i);
        if (met != 0) {
            return -10 - met;
        }
        sheets.put(k, i, v);
        return 1;
    }

    public int read(int k, int lane, int f, int n) {
        if (!sheets.isSheet(k) || !sheets.isLane(lane) || n < 0 || n > MOST_READ) {
            return BAD;
        }
        int movesAhead = town.moves;
        int met = 0;
        int came = 0;
        while (came < n && met == 0) {
            int cell = f + 3 * came;
            met = sheets.faultOfThree(k, lane, cell);
            if (met == 0) {
                int[] cells = sheets.cells[k];
                if (town.addMove(cells[cell], cells[cell + 1], cells[cell + 2]) < 0) {
                    town.moves = movesAhead;
                    return -20 - came;
                }
                came++;
            }
        }
        readFault = met;
        return came;
    }

    public int torn() {
        return readFault;
    }

    public int count(int what) {
        switch (what) {
            case 0: return seen.size;
            case 1: return wants.size;
            case 2: return (kept[0] ? 1 : 0) + (kept[1] ? 1 : 0);
            case 3: return tape.length;
            case 4: return sheets.size[0] < 0 ? NONE : sheets.size[0];
            default: return BAD;
        }
    }

    private static boolean isDay(int day) {
        return day >= 0 && day < DAYS;
    }

    private static boolean isLaw(int v) {
        return v >= 0 && v < LAWS;
    }

    private static boolean isNumber(int n) {
        return n >= 0 && n <= MOST_NUMBER;
    }

    private static boolean isImage(int k) {
        return k >= 0 && k < IMAGES;
    }

    private static int lastDayOf(int year) {
        return year * YEAR_DAYS + YEAR_DAYS - 1;
    }

    /** Houses, the law, people, moves and births: what a text tells and an image holds. */
    private static final class Town {
        /** A copy on which births are tried holds the expected ones behind the people. */
        private static final int ROOM = MOST_PEOPLE + MOST_BIRTHS;

        int houses = FIRST_HOUSES;
        int law = ELDEST;
        int people = 0;
        final int[] kind = new int[ROOM];
        final int[] born = new int[ROOM];
        final int[] home = new int[ROOM];
        /** DAYS stands for none, so that everybody lives up to the day ahead of it. */
        final int[] dies = new int[ROOM];
        int moves = 0;
        final int[] moveDay = new int[MOST_MOVES];
        final int[] moveOne = new int[MOST_MOVES];
        final int[] moveHouse = new int[MOST_MOVES];
        int births = 0;
        final int[] birthHouse = new int[MOST_BIRTHS];
        final int[] birthFrom = new int[MOST_BIRTHS];
        final int[] birthTo = new int[MOST_BIRTHS];
        private final Tally tally = new Tally();

        void begin() {
            houses = FIRST_HOUSES;
            law = ELDEST;
            people = 0;
            moves = 0;
            births = 0;
        }

        void copyOf(Town from) {
            houses = from.houses;
            law = from.law;
            people = from.people;
            moves = from.moves;
            births = from.births;
            System.arraycopy(from.kind, 0, kind, 0, ROOM);
            System.arraycopy(from.born, 0, born, 0, ROOM);
            System.arraycopy(from.home, 0, home, 0, ROOM);
            System.arraycopy(from.dies, 0, dies, 0, ROOM);
            System.arraycopy(from.moveDay, 0, moveDay, 0, MOST_MOVES);
            System.arraycopy(from.moveOne, 0, moveOne, 0, MOST_MOVES);
            System.arraycopy(from.moveHouse, 0, moveHouse, 0, MOST_MOVES);
            System.arraycopy(from.birthHouse, 0, birthHouse, 0, MOST_BIRTHS);
            System.arraycopy(from.birthFrom, 0, birthFrom, 0, MOST_BIRTHS);
            System.arraycopy(from.birthTo, 0, birthTo, 0, MOST_BIRTHS);
        }

        boolean isOne(int p) {
            return p >= 0 && p < people;
        }

        boolean isHouse(int house) {
            return house >= 0 && house < houses;
        }

        void addOne(int itsKind, int day, int house, int death) {
            if (people < ROOM) {
                kind[people] = itsKind;
                born[people] = day;
                home[people] = house;
                dies[people] = death;
                people++;
            }
        }

        /** Takes the move whatever it tells: a text is looked through for what there is not at its end. */
        void putMove(int day, int p, int house) {
            if (moves < MOST_MOVES) {
                moveDay[moves] = day;
                moveOne[moves] = p;
                moveHouse[moves] = house;
                moves++;
            }
        }

        boolean isTooEarly(int day) {
            return moves > 0 && day < moveDay[moves - 1];
        }

        int addMove(int day, int p, int house) {
            if (!isDay(day) || !isOne(p) || !isHouse(house) || isTooEarly(day)) {
                return BAD;
            }
            if (moves >= MOST_MOVES) {
                return FULL;
            }
            putMove(day, p, house);
            return moves;
        }

        void addBirth(int house, int from, int to) {
            if (births < MOST_BIRTHS) {
                birthHouse[births] = house;
                birthFrom[births] = from;
                birthTo[births] = to;
                births++;
            }
        }

        int deathOf(int p) {
            return dies[p] == DAYS ? NONE : dies[p];
        }

        boolean isAlive(int p, int day) {
            return born[p] <= day && day < dies[p];
        }

        int yearsOf(int p, int day) {
            return (day - born[p]) / YEAR_DAYS;
        }

        int homeOf(int p, int day) {
            for (int m = moves - 1; m >= 0; m--) {
                if (moveOne[m] == p && moveDay[m] <= day) {
                    return moveHouse[m];
                }
            }
            return home[p];
        }

        boolean isAuntOn(int p, int day) {
            return isOne(p) && kind[p] == AUNT && isAlive(p, day);
        }

        int auntsOn(int day) {
            int n = 0;
            for (int p = 0; p < people; p++) {
                if (isAuntOn(p, day)) {
                    n++;
                }
            }
            return n;
        }

        int aliveOn(int day) {
            int n = 0;
            for (int p = 0; p < people; p++) {
                if (isAlive(p, day)) {
                    n++;
                }
            }
            return n;
        }

        /** The tally is the town's own, good up to the next call. */
        Tally tallyOn(int day) {
            tally.clear();
            for (int p = 0; p < people; p++) {
                if (isAlive(p, day)) {
                    tally.add(homeOf(p, day), kind[p], yearsOf(p, day));
                }
            }
            return tally;
        }

        int numberOf(int house, int day) {
            return tallyOn(day).valueOf(house, law);
        }

        /** Houses that have number n (NONE: those without), as bits. */
        int having(int n, int day) {
            Tally on = tallyOn(day);
            int bits = 0;
            for (int house = 0; house < houses; house++) {
                if (on.valueOf(house, law) == n) {
                    bits |= 1 << house;
                }
            }
            return bits;
        }

        int allNumbers(int day, int byLaw) {
            Tally on = tallyOn(day);
            int sum = 0;
            for (int house = 0; house < houses; house++) {
                int n = on.valueOf(house, byLaw);
                sum += n == NONE ? 0 : n;
            }
            return sum;
        }

        /** The first day behind this one on which a number can be another: a birth, birthday, death, move. */
        int nextEvent(int day) {
            int next = DAYS;
            for (int p = 0; p < people; p++) {
                int own = day < born[p] ? born[p] : born[p] + (yearsOf(p, day) + 1) * YEAR_DAYS;
                if (own < dies[p]) {
                    next = Math.min(next, own);
                }
                if (dies[p] > day) {
                    next = Math.min(next, dies[p]);
                }
            }
            for (int m = 0; m < moves; m++) {
                if (moveDay[m] > day) {
                    next = Math.min(next, moveDay[m]);
                }
            }
            return next;
        }

        /** On the day that ends a year each who lives takes a chance; answers the seed behind the last. */
        int passYearEnd(int day, int seed) {
            int chance = seed;
            for (int p = 0; p < people; p++) {
                if (isAlive(p, day)) {
                    chance = chance * 1103515245 + 12345;
                    if (((chance >>> 16) & 0x7fff) % 100 < yearsOf(p, day)) {
                        dies[p] = day;
                    }
                }
            }
            return chance;
        }

        /** Puts the expected ones of a house behind the people; answers how many choices there are to try. */
        int bearExpected(int house) {
            int ways = 1;
            for (int e = 0; e < births; e++) {
                if (birthHouse[e] == house) {
                    addOne(PLAIN, birthFrom[e], house, DAYS);
                    ways *= 3;
                }
            }
            return ways;
        }

        /**
         * Each expected one is born on the first day of his span, the last one, or that nearest to the day
         * asked about: no law answers less or more by a day between these.
         */
        void chooseBirths(Town told, int house, int day, int way) {
            int rest = way;
            int p = told.people;
            for (int e = 0; e < births; e++) {
                if (birthHouse[e] == house && p < people) {
                    int from = birthFrom[e];
                    int to = birthTo[e];
                    int near = Math.max(from, Math.min(to, day));
                    int choice = rest % 3;
                    born[p] = choice == 0 ? from : choice == 1 ? near : to;
                    rest /= 3;
                    p++;
                }
            }
        }
    }

    /** What those tell who count in each house, ready for whichever law. */
    private static final class Tally {
        private final int[] heads = new int[MOST_HOUSES];
        private final int[] sum = new int[MOST_HOUSES];
        private final int[] most = new int[MOST_HOUSES];
        private final int[] least = new int[MOST_HOUSES];

        void clear() {
            for (int house = 0; house < MOST_HOUSES; house++) {
                heads[house] = 0;
                sum[house] = 0;
            }
        }

        void copyOf(Tally from) {
            System.arraycopy(from.heads, 0, heads, 0, MOST_HOUSES);
            System.arraycopy(from.sum, 0, sum, 0, MOST_HOUSES);
            System.arraycopy(from.most, 0, most, 0, MOST_HOUSES);
            System.arraycopy(from.least, 0, least, 0, MOST_HOUSES);
        }

        void add(int house, int kind, int years) {
            if (kind == LODGER || house < 0 || house >= MOST_HOUSES) {
                return;
            }
            int tells = kind == VAIN ? Math.max(0, years - 3) : years;
            int weight = kind == DOUBLE ? 2 : 1;
            boolean first = heads[house] == 0;
            most[house] = first ? tells : Math.max(most[house], tells);
            least[house] = first ? tells : Math.min(least[house], tells);
            heads[house] += weight;
            sum[house] += weight * tells;
        }

        int valueOf(int house, int law) {
            if (house < 0 || house >= MOST_HOUSES || heads[house] == 0) {
                return NONE;
            }
            switch (law) {
                case ELDEST: return most[house];
                case YOUNGEST: return least[house];
                case SUM: return sum[house];
                default: return sum[house] / heads[house];
            }
        }

        int twinBits(int houses, int law) {
            int bits = 0;
            for (int a = 0; a < houses; a++) {
                int n = valueOf(a, law);
                for (int b = a + 1; b < houses && n != NONE; b++) {
                    if (valueOf(b, law) == n) {
                        bits |= 1 << a | 1 << b;
                    }
                }
            }
            return bits;
        }

        /** How many houses stand ahead of this one; NONE is below every number, so those without stand last. */
        int rankOf(int house, int houses, int law) {
            int n = valueOf(house, law);
            int rank = 0;
            for (int other = 0; other < houses; other++) {
                int m = valueOf(other, law);
                if (m > n || (m == n && other < house)) {
                    rank++;
                }
            }
            return rank;
        }

        /** The house with the greatest number of those that have no bit in been. */
        int greatest(int houses, int law, int been) {
            int best = NONE;
            int bestNumber = NONE;
            for (int house = 0; house < houses; house++) {
                int n = valueOf(house, law);
                if ((been & (1 << house)) == 0 && n > bestNumber) {
                    best = house;
                    bestNumber = n;
                }
            }
            return best;
        }
    }

    /** A row of houses with days and numbers: what is wanted (its days mean nothing), what was seen. */
    private static final class Told {
        private final int most;
        final int[] house;
        final int[] day;
        final int[] number;
        int size = 0;

        Told(int room) {
            most = Math.max(0, room);
            house = new int[most];
            day = new int[most];
            number = new int[most];
        }

        boolean add(int itsHouse, int itsDay, int itsNumber) {
            if (size >= most) {
                return false;
            }
            house[size] = itsHouse;
            day[size] = itsDay;
            number[size] = itsNumber;
            size++;
            return true;
        }

        int firstLie(Town town) {
            for (int i = 0; i < size; i++) {
                if (town.numberOf(house[i], day[i]) != number[i]) {
                    return i;
                }
            }
            return NONE;
        }
    }

    /** Tries where the aunts of a day can go. */
    private static final class Search {
        private int aunts = 0;
        private final int[] aunt = new int[MOST_FETCHED];
        private final int[] stays = new int[MOST_FETCHED];
        private final int[] age = new int[MOST_FETCHED];
        private final int[] goes = new int[MOST_FETCHED];
        private final int[] best = new int[MOST_FETCHED];
        private final Tally others = new Tally();
        private final Tally tally = new Tally();

        /** Ways are tried in their due order, so that of several with as few the first is kept. */
        int fewest(Town town, int day, Told wants, boolean alone) {
            gather(town, day);
            int ways = 1;
            for (int a = 0; a < aunts; a++) {
                ways *= town.houses;
            }
            int fewest = NONE;
            for (int way = 0; way < ways && fewest != 0; way++) {
                int movers = send(way, town.houses);
                if ((fewest == NONE || movers < fewest) && isSo(town, wants, alone)) {
                    fewest = movers;
                    System.arraycopy(goes, 0, best, 0, MOST_FETCHED);
                }
            }
            return fewest;
        }

        int houseFor(int p) {
            for (int a = 0; a < aunts; a++) {
                if (aunt[a] == p) {
                    return best[a];
                }
            }
            return BAD;
        }

        private void gather(Town town, int day) {
            aunts = 0;
            others.clear();
            for (int p = 0; p < town.people; p++) {
                if (town.isAuntOn(p, day) && aunts < MOST_FETCHED) {
                    aunt[aunts] = p;
                    stays[aunts] = town.homeOf(p, day);
                    age[aunts] = town.yearsOf(p, day);
                    aunts++;
                } else if (town.isAlive(p, day)) {
                    others.add(town.homeOf(p, day), town.kind[p], town.yearsOf(p, day));
                }
            }
        }

        /** The first aunt's house is the highest figure of the way; answers how many go elsewhere. */
        private int send(int way, int houses) {
            int rest = way;
            int movers = 0;
            for (int a = aunts - 1; a >= 0 && houses > 0; a--) {
                goes[a] = rest % houses;
                rest /= houses;
                if (goes[a] != stays[a]) {
                    movers++;
                }
            }
            return movers;
        }

        private boolean isSo(Town town, Told wants, boolean alone) {
            tally.copyOf(others);
            for (int a = 0; a < aunts; a++) {
                tally.add(goes[a], AUNT, age[a]);
            }
            for (int i = 0; i < wants.size; i++) {
                if (tally.valueOf(wants.house[i], town.law) != wants.number[i]) {
                    return false;
                }
            }
            return !alone || tally.twinBits(town.houses, town.law) == 0;
        }
    }

    /** The bytes that were fed, and what they tell. */
    private static final class Tape {
        private static final int MOST_BYTES = 400;
        private static final int MOST_FIGURES = 3;
        private static final int END = 0, NAME = 1, NUMBER = 2, SIGN = 3;
        private static final int NO_TOKEN = 1, MISPLACED = 2, OUT_OF_BOUNDS = 3;
        private static final int AGAIN = 4, TOO_EARLY = 4, TOO_MANY = 5, MISSING = 6;

        private final int[] bytes = new int[MOST_BYTES];
        int length = 0;
        int lines = 0;
        int fault = 0;
        int faultPlace = 0;
        private int place = 0;
        /** The token that was read last: its sort, its first byte, a number's value. */
        private int token = END;
        private int start = 0;
        private int value = 0;
        /** The day that date() has read. */
        private int day = 0;
        private boolean housesTold = false;
        private boolean lawTold = false;

        boolean append(long v) {
            if (length + 8 > MOST_BYTES) {
                return false;
            }
            for (int shift = 56; shift >= 0; shift -= 8) {
                bytes[length] = (int) (v >>> shift) & 255;
                length++;
            }
            return true;
        }

        /** Tells all into a town; false by a fault. */
        boolean tell(Town town) {
            town.begin();
            place = 0;
            lines = 0;
            fault = 0;
            faultPlace = 0;
            housesTold = false;
            lawTold = false;
            // A line has two bytes at least, so that there are fewer lines than bytes.
            for (int i = 0; i <= MOST_BYTES; i++) {
                if (!next()) {
                    return false;
                }
                if (token == END) {
                    return isWhole(town) || fail(MISSING, length);
                }
                if (!line(town)) {
                    return false;
                }
                lines++;
            }
            return false;
        }

        private boolean line(Town town) {
            if (isName("houses")) {
                return housesLine(town);
            }
            if (isName("law")) {
                return lawLine(town);
            }
            if (isName("one")) {
                return oneLine(town);
            }
            if (isName("move")) {
                return moveLine(town);
            }
            if (isName("expect")) {
                return expectLine(town);
            }
            return fail(MISPLACED, start);
        }

        private boolean housesLine(Town town) {
            if (housesTold) {
                return fail(AGAIN, start);
            }
            housesTold = true;
            if (!figure(1, MOST_HOUSES)) {
                return false;
            }
            town.houses = value;
            return sign();
        }

        private boolean lawLine(Town town) {
            if (lawTold) {
                return fail(AGAIN, start);
            }
            lawTold = true;
            if (!next()) {
                return false;
            }
            town.law = lawNamed();
            return town.law == NONE ? fail(MISPLACED, start) : sign();
        }

        private boolean oneLine(Town town) {
            if (town.people >= MOST_PEOPLE) {
                return fail(TOO_MANY, start);
            }
            if (!next()) {
                return false;
            }
            int kind = kindNamed();
            if (kind == NONE) {
                return fail(MISPLACED, start);
            }
            if (!date()) {
                return false;
            }
            int born = day;
            if (!figure(0, MOST_HOUSES - 1)) {
                return false;
            }
            int house = value;
            if (!next()) {
                return false;
            }
            if (isName("died")) {
                if (!date()) {
                    return false;
                }
                town.addOne(kind, born, house, day);
                return day <= born ? fail(TOO_EARLY, start) : sign();
            }
            town.addOne(kind, born, house, DAYS);
            return token == SIGN || fail(MISPLACED, start);
        }

        private boolean moveLine(Town town) {
            if (town.moves >= MOST_MOVES) {
                return fail(TOO_MANY, start);
            }
            if (!date()) {
                return false;
            }
            int on = day;
            if (town.isTooEarly(on)) {
                return fail(TOO_EARLY, start);
            }
            if (!figure(0, MOST_PEOPLE - 1)) {
                return false;
            }
            int p = value;
            if (!figure(0, MOST_HOUSES - 1)) {
                return false;
            }
            town.putMove(on, p, value);
            return sign();
        }

        private boolean expectLine(Town town) {
            if (town.births >= MOST_BIRTHS) {
                return fail(TOO_MANY, start);
            }
            if (!figure(0, MOST_HOUSES - 1)) {
                return false;
            }
            int house = value;
            if (!date()) {
                return false;
            }
            int from = day;
            if (!date()) {
                return false;
            }
            town.addBirth(house, from, day);
            return day < from ? fail(TOO_EARLY, start) : sign();
        }

        private boolean isWhole(Town town) {
            for (int p = 0; p < town.people; p++) {
                if (!town.isHouse(town.home[p])) {
                    return false;
                }
            }
            for (int m = 0; m < town.moves; m++) {
                if (!town.isOne(town.moveOne[m]) || !town.isHouse(town.moveHouse[m])) {
                    return false;
                }
            }
            for (int e = 0; e < town.births; e++) {
                if (!town.isHouse(town.birthHouse[e])) {
                    return false;
                }
            }
            return true;
        }

        private int lawNamed() {
            if (isName("eldest")) {
                return 0;
            }
            if (isName("youngest")) {
                return 1;
            }
            if (isName("sum")) {
                return 2;
            }
            return isName("mean") ? 3 : NONE;
        }

        private int kindNamed() {
            if (isName("plain")) {
                return PLAIN;
            }
            if (isName("aunt")) {
                return AUNT;
            }
            if (isName("vain")) {
                return VAIN;
            }
            if (isName("double")) {
                return DOUBLE;
            }
            return isName("lodger") ? LODGER : NONE;
        }

        /** A year and its day; start is then that of the day, where a day that is too early has its fault. */
        private boolean date() {
            if (!figure(0, YEARS - 1)) {
                return false;
            }
            int year = value;
            if (!figure(0, YEAR_DAYS - 1)) {
                return false;
            }
            day = year * YEAR_DAYS + value;
            return true;
        }

        private boolean figure(int low, int high) {
            if (!next()) {
                return false;
            }
            if (token != NUMBER) {
                return fail(MISPLACED, start);
            }
            return (value >= low && value <= high) || fail(OUT_OF_BOUNDS, start);
        }

        private boolean sign() {
            return next() && (token == SIGN || fail(MISPLACED, start));
        }

        private boolean fail(int which, int where) {
            fault = which;
            faultPlace = where;
            return false;
        }

        /** Reads the next token; false where there is none. */
        private boolean next() {
            while (place < length && bytes[place] == ' ') {
                place++;
            }
            start = place;
            value = 0;
            if (place >= length) {
                token = END;
                return true;
            }
            if (bytes[place] == ';') {
                token = SIGN;
                place++;
                return true;
            }
            while (place < length && isLetter(bytes[place])) {
                place++;
            }
            if (place > start) {
                token = NAME;
                return true;
            }
            return nextNumber() || fail(NO_TOKEN, start);
        }

        private boolean nextNumber() {
            token = NUMBER;
            while (place < length && bytes[place] >= '0' && bytes[place] <= '9') {
                if (place - start < MOST_FIGURES) {
                    value = value * 10 + bytes[place] - '0';
                }
                place++;
            }
            return place > start && place - start <= MOST_FIGURES;
        }

        private static boolean isLetter(int b) {
            return b >= 'a' && b <= 'z';
        }

        private boolean isName(String name) {
            if (token != NAME || place - start != name.length()) {
                return false;
            }
            for (int i = 0; i < name.length(); i++) {
                if (bytes[start + i] != name.charAt(i)) {
                    return false;
                }
            }
            return true;
        }
    }

    /** Rows of cells of a lane; a size below 0 is no row. */
    private static final class Sheets {
        static final int MOST_CELLS = 40;
        private static final int SHEETS = 4;
        private static final int BYTES = 0, SHORTS = 1, LANES = 3;

        final int[][] cells = new int[SHEETS][MOST_CELLS];
        final int[] lane = new int[SHEETS];
        final int[] size = {-1, -1, -1, -1};

        boolean isSheet(int k) {
            return k >= 0 && k < SHEETS;
        }

        boolean isLane(int v) {
            return v >= 0 && v < LANES;
        }

        void renew(int k, int itsLane, int n) {
            lane[k] = itsLane;
            size[k] = n;
            for (int i = 0; i < MOST_CELLS; i++) {
                cells[k][i] = 0;
            }
        }

        /** What the machine finds at cell i of a sheet that is taken as of a lane; 0: nothing. */
        int faultAt(int k, int asLane, int i) {
            if (size[k] < 0) {
                return NULL_FAULT;
            }
            if (lane[k] != asLane) {
                return CAST_FAULT;
            }
            return i < 0 || i >= size[k] ? INDEX_FAULT : 0;
        }

        int faultOfThree(int k, int asLane, int first) {
            int met = 0;
            for (int i = 0; i < 3 && met == 0; i++) {
                met = faultAt(k, asLane, first + i);
            }
            return met;
        }

        void put(int k, int i, int v) {
            switch (lane[k]) {
                case BYTES: cells[k][i] = (byte) v; break;
                case SHORTS: cells[k][i] = (short) v; break;
                default: cells[k][i] = v;
            }
        }
    }
}
