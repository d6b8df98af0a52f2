/** Late moons: fadings of far lights, sights of them, tables of terms fitted to these, and who believes which. */
public final class LateMoons {
    private static final int FINE = 0;
    private static final int NOBODY = -1;
    private static final int OTHER = -2;
    private static final int STATE = -3;
    private static final int BELOW = -4;
    private static final int ROOM = -6;
    private static final int REFUSAL_KINDS = 6;
    private static final int NONE = -9;
    private static final int PULL_REFUSALS = -100;
    private static final int FAULTS = -20;
    private static final long LONG_REFUSALS = -4000000000000000000L;
    private static final long ABOVE_ALL = 9223372036854775807L;

    private static final int MOONS = 4;
    private static final int EYES = 6;
    private static final int CLOCKS = 4;
    private static final int TOWNS = 4;
    private static final int HOLDERS = 4;
    private static final int MOST_SIGHTS = 40;
    private static final int MOST_TABLES = 8;
    private static final int MOST_TERMS = 3;
    private static final int MOST_BYTES = 20;
    private static final int MOST_ROWS = 80;
    private static final int ROW = 8;
    private static final int LAST_FADING = 999;
    private static final int LAST_DAY = 999;
    private static final int LAST_SECOND = 1999999999;
    private static final int SECOND_SPLIT = 100000;
    private static final int GREATEST_FIRST = 999999;
    private static final int LEAST_PERIOD = 1000;
    private static final int GREATEST_PERIOD = 999999;
    private static final int DAY_SECONDS = 86400;

    private static final int LIGHT = 0;
    private static final int YEAR = 1;
    private static final int STEP = 2;
    private static final int PRICE = 3;
    private static final int SLACK = 4;
    private static final int SETTINGS = 5;
    private static final int[] SETTING_LEAST = {0, 1000, 1, 0, 0};
    private static final int[] SETTING_GREATEST = {2000, 99999999, 60, 9999, 999};

    private static final int LEANS = 0;
    private static final int LOSSES = 1;
    private static final int CLOCK_SETS = 2;
    private static final int OFFSETS = 3;
    private static final int[] TOOL_HOLDERS = {6, 4, 4, 4};
    private static final int[] TOOL_LEAST = {-99, -99, 0, -43200};
    private static final int[] TOOL_GREATEST = {99, 99, 999999999, 43200};

    private static final int KIND_OUT = 2;
    private static final int KIND_NEAR = 3;
    private static final int KIND_SMALL = 4;
    private static final int KIND_CLOUDED = 5;
    private static final int KIND_CLOCKED = 6;
    private static final int KIND_FAR = 7;
    private static final int[] ROW_GREATEST = {3, 999, 7, 5, 3, 3, 19999, 99999};

    private static final int TERM_EVEN = 0;
    private static final int TERM_OUT = 1;
    private static final int TERM_LIGHT = 2;
    private static final int TERM_PULL = 3;
    private static final int NUMBERS = 7;
    private static final int NUMBER_ZERO = 3;
    private static final int[] NUMBERS_TO = {1, 7, 49, 343};
    private static final int ALL_NUMBERS = 343;
    private static final int WHOLE = -1;

    private static final int MOST_NIGHTS = 12;
    private static final int MOST_WATCHED = 4;
    private static final int TABLE_PAIRS = 28;
    private static final int TURN_SIGHTS = 8;

    private static final int[] WAVE = {0, 3, 4, 3, 0, -3, -4, -3};

    private final World world = new World();
    private final World kept = new World();
    private boolean isKept;
    private final Text text = new Text();
    private final int[] rows = new int[MOST_ROWS];
    private int rowCount;
    private final int[] refusals = new int[REFUSAL_KINDS];
    private final Judge judge = new Judge(world);
    private final Watcher watcher = new Watcher(world);

    public LateMoons() {
    }

    public int moon(int m, int first, int period, int out, int length) {
        int no = isWithin(m, MOONS) ? FINE : NOBODY;
        no = then(no, outside(first, 0, GREATEST_FIRST));
        no = then(no, outside(period, LEAST_PERIOD, GREATEST_PERIOD));
        no = then(no, outside(out, 0, 99));
        no = then(no, outside(length, 0, 9999));
        if (no != FINE) {
            return refuse(no);
        }
        return world.moons.tell(m, first, period, out, length) ? 1 : 0;
    }

    public int pull(int m, int by, int n) {
        int no = then(noMoon(m), noMoon(by));
        no = then(no, m == by ? NOBODY : FINE);
        no = then(no, outside(n, -9, 9));
        if (no != FINE) {
            return PULL_REFUSALS + refuse(no);
        }
        int at = m * MOONS + by;
        int was = world.moons.pulls[at];
        world.moons.pulls[at] = n;
        return was;
    }

    public int set(int what, int n) {
        if (!isWithin(what, SETTINGS)) {
            return refuse(OTHER);
        }
        int no = outside(n, SETTING_LEAST[what], SETTING_GREATEST[what]);
        if (no != FINE) {
            return refuse(no);
        }
        int was = world.settings[what];
        world.settings[what] = n;
        return was;
    }

    public long fading(int m, int k, boolean seen) {
        int no = then(noMoon(m), outside(k, 0, LAST_FADING));
        if (no != FINE) {
            return refuseLong(no);
        }
        return seen ? world.seenAt(m, k) : world.fadesAt(m, k);
    }

    public int far(int t) {
        int no = outside(t, 0, LAST_SECOND);
        return no != FINE ? refuse(no) : world.farOf(t);
    }

    public int tool(int what, int i, int n) {
        if (!isWithin(what, TOOL_HOLDERS.length)) {
            return refuse(OTHER);
        }
        int no = isWithin(i, TOOL_HOLDERS[what]) ? FINE : NOBODY;
        no = then(no, outside(n, TOOL_LEAST[what], TOOL_GREATEST[what]));
        if (no != FINE) {
            return refuse(no);
        }
        world.tools.rowOf(what)[i] = n;
        return 1;
    }

    public int sight(int m, int k, int told, int second) {
        int kind = told / 1000;
        int eye = told / 100 % 10;
        int clock = told / 10 % 10;
        int town = told % 10;
        int no = noMoon(m);
        no = then(no, told < 0 || kind > KIND_FAR ? OTHER : FINE);
        no = then(no, eye < EYES && clock < CLOCKS && town < TOWNS ? FINE : NOBODY);
        no = then(no, k < 0 || second < 0 ? BELOW : FINE);
        no = then(no, k > LAST_FADING || second > LAST_SECOND ? ROOM : FINE);
        no = then(no, world.sights.size < MOST_SIGHTS ? FINE : ROOM);
        if (no != FINE) {
            return refuse(no);
        }
        world.sights.add(m, k, kind, eye, clock, town, second);
        return world.sights.size - 1;
    }

    public long right(int sight) {
        int no = then(noSight(sight), cloudedSight(sight));
        return no != FINE ? refuseLong(no) : world.putRight(sight);
    }

    public int put(int v) {
        if (rowCount >= MOST_ROWS) {
            return refuse(ROOM);
        }
        rows[rowCount] = v;
        rowCount++;
        return rowCount;
    }

    public int read() {
        int came = 0;
        for (int at = 0; at + ROW <= rowCount; at += ROW) {
            if (!isRowAsTold(at)) {
                break;
            }
            int second = rows[at + 6] * SECOND_SPLIT + rows[at + 7];
            world.sights.add(rows[at], rows[at + 1], rows[at + 2], rows[at + 3], rows[at + 4], rows[at + 5], second);
            came++;
        }
        rowCount = 0;
        return came;
    }

    public int takeBack() {
        int latest = world.sights.size - 1;
        if (latest < 0 || world.sights.sentOf(latest) > 0) {
            return refuse(STATE);
        }
        world.sights.size = latest;
        return latest;
    }

    public int feed(int n, long bytes) {
        int no = outside(n, 1, 8);
        no = then(no, text.size > MOST_BYTES - n ? ROOM : FINE);
        if (no != FINE) {
            return refuse(no);
        }
        for (int i = 0; i < n; i++) {
            text.add((int) (bytes >>> (8 * i)) & 255);
        }
        return text.size;
    }

    public int table() {
        if (world.tables.size >= MOST_TABLES) {
            return refuse(ROOM);
        }
        int fault = text.faultPlace();
        text.size = 0;
        if (fault >= 0) {
            return FAULTS - fault;
        }
        world.tables.add(text);
        return world.tables.size - 1;
    }

    public int guess(int m, int first, int period) {
        int no = isWithin(m, MOONS) ? FINE : NOBODY;
        no = then(no, first < 0 || period < LEAST_PERIOD ? BELOW : FINE);
        no = then(no, first > GREATEST_FIRST || period > GREATEST_PERIOD ? ROOM : FINE);
        if (no != FINE) {
            return refuse(no);
        }
        world.moons.guessedFirst[m] = first;
        world.moons.guessedPeriod[m] = period;
        return 1;
    }

    public long says(int table, int m, int k, int numbers) {
        int no = then(noTable(table), noMoon(m));
        no = then(no, outside(k, 0, LAST_FADING));
        if (no != FINE) {
            return refuseLong(no);
        }
        no = outside(numbers, 0, NUMBERS_TO[world.tables.lengths[table]] - 1);
        return no != FINE ? refuseLong(no) : world.said(table, m, k, numbers);
    }

    public long fit(int table, int m, long set, int what) {
        int no = then(noTable(table), noMoon(m));
        no = then(no, isWithin(what, 3) ? FINE : OTHER);
        no = then(no, wrongSet(set));
        if (no != FINE) {
            return refuseLong(no);
        }
        Fitter fitter = judge.fitted(table, WHOLE, m, set);
        if (what == 0) {
            return fitter.fitNumbers();
        }
        return what == 1 ? fitter.score() : fitter.leastSum();
    }

    public long left(int table, int sight, long set) {
        int no = then(noTable(table), noSight(sight));
        no = then(no, cloudedSight(sight));
        no = then(no, wrongSet(set));
        if (no != FINE) {
            return refuseLong(no);
        }
        int numbers = judge.fitted(table, WHOLE, world.sights.moon[sight], set).fitNumbers();
        return world.leftOf(sight, table, numbers);
    }

    public long season(int table, int m, long set) {
        int no = then(noTable(table), noMoon(m));
        no = then(no, wrongSet(set));
        if (no != FINE) {
            return refuseLong(no);
        }
        int numbers = judge.fitted(table, WHOLE, m, set).fitNumbers();
        return world.seasonOf(table, m, set, numbers);
    }

    public long worth(int table, int term, int m, long set) {
        int no = then(noTable(table), noMoon(m));
        if (no == FINE && !isWithin(term, world.tables.lengths[table])) {
            no = NOBODY;
        }
        no = then(no, wrongSet(set));
        if (no != FINE) {
            return refuseLong(no);
        }
        long whole = judge.fitted(table, WHOLE, m, set).score();
        return judge.fitted(table, term, m, set).score() - whole;
    }

    public int best(int m, long set) {
        int no = then(noMoon(m), noTables());
        no = then(no, wrongSet(set));
        if (no != FINE) {
            return refuse(no);
        }
        judge.gather(m, set);
        return judge.bestNow();
    }

    public int allMoons(int table) {
        int no = noTable(table);
        if (no == FINE && world.tables.placeOf(table, TERM_LIGHT) < 0) {
            no = NOBODY;
        }
        return no != FINE ? refuse(no) : judge.lightOfAll(table);
    }

    public long foretold(int table, int m, int k, long set, boolean err) {
        int no = then(noTable(table), noMoon(m));
        no = then(no, outside(k, 0, LAST_FADING));
        no = then(no, wrongSet(set));
        if (no != FINE) {
            return refuseLong(no);
        }
        long said = world.said(table, m, k, judge.fitted(table, WHOLE, m, set).fitNumbers());
        return err ? world.seenAt(m, k) - said : said;
    }

    public int parts(int one, int two, int m, int a, int b) {
        int no = then(noTable(one), noTable(two));
        no = then(no, noMoon(m));
        no = then(no, a < 0 || b < 0 ? BELOW : FINE);
        no = then(no, a > LAST_FADING || b > LAST_FADING ? ROOM : FINE);
        no = then(no, b < a ? STATE : FINE);
        if (no != FINE) {
            return refuse(no);
        }
        int oneNumbers = judge.fitted(one, WHOLE, m, allSights()).fitNumbers();
        int twoNumbers = judge.fitted(two, WHOLE, m, allSights()).fitNumbers();
        return world.furthestApart(one, oneNumbers, two, twoNumbers, m, a, b);
    }

    public int rhythm(int x, int y, int z) {
        int no = then(noMoon(x), noMoon(y));
        no = then(no, noMoon(z));
        no = then(no, x == y || y == z || x == z ? NOBODY : FINE);
        return no != FINE ? refuse(no) : world.moons.rhythmOf(x, y, z);
    }

    public long apart(int a, int b, int what) {
        int no = isWithin(what, 4) ? FINE : OTHER;
        boolean towns = what < 2;
        int among = towns ? TOWNS : EYES;
        no = then(no, isWithin(a, among) && isWithin(b, among) && a != b ? FINE : NOBODY);
        if (no == FINE && !world.hasPair(a, b, towns)) {
            no = STATE;
        }
        if (no != FINE) {
            return refuseLong(no);
        }
        boolean greatest = what == 1 || what == 3;
        // the least of one way round is the greatest of the other with its sign turned
        return greatest ? -world.leastApart(b, a, towns) : world.leastApart(a, b, towns);
    }

    public int send(int sight, int holder, int day) {
        int no = noSight(sight);
        no = then(no, isWithin(holder, HOLDERS) ? FINE : NOBODY);
        no = then(no, outside(day, -1, LAST_DAY));
        return no != FINE ? refuse(no) : world.sights.post(sight, holder, day < 0 ? NONE : day);
    }

    public long has(int holder, int day) {
        int no = isWithin(holder, HOLDERS) ? FINE : NOBODY;
        no = then(no, outside(day, 0, LAST_DAY));
        return no != FINE ? refuseLong(no) : world.sights.cameTo(holder, day);
    }

    public int believes(int holder, int day, int m) {
        int no = wrongHolding(holder, day, m);
        if (no != FINE) {
            return refuse(no);
        }
        judge.gather(m, world.sights.cameTo(holder, day));
        return judge.bestNow();
    }

    public long turn(int holder, int day, int m) {
        int no = wrongHolding(holder, day, m);
        if (no != FINE) {
            return refuseLong(no);
        }
        long had = world.sights.cameTo(holder, day);
        judge.gather(m, had);
        return judge.turningSights(m, had);
    }

    public int watch(int m, int a, int b, int n) {
        int no = noMoon(m);
        no = then(no, n < 1 || a < 0 || b < 0 ? BELOW : FINE);
        no = then(no, n > MOST_WATCHED || a > LAST_FADING || b > LAST_FADING ? ROOM : FINE);
        // only behind the tests above: b less a could wrap around for wild numbers
        no = then(no, no == FINE && b - a >= MOST_NIGHTS ? ROOM : FINE);
        no = then(no, no == FINE && b - a + 1 < n ? STATE : FINE);
        if (no != FINE) {
            return refuse(no);
        }
        int nights = b - a + 1;
        for (int t = 0; t < world.tables.size; t++) {
            watcher.hear(t, m, a, nights, judge.fitted(t, WHOLE, m, allSights()).fitNumbers());
        }
        watcher.compareTables(nights);
        return watcher.bestNights(nights, n);
    }

    public int image() {
        kept.copyFrom(world);
        isKept = true;
        return world.sights.size;
    }

    public int restore() {
        if (!isKept) {
            return refuse(STATE);
        }
        world.copyFrom(kept);
        return world.sights.size;
    }

    public int count(int what) {
        switch (what) {
            case 0:
                return world.moons.size();
            case 1:
                return world.sights.size;
            case 2:
                return world.sights.clouded();
            case 3:
                return world.tables.size;
            case 4:
                return rowCount;
            case 5:
                return text.size;
            case 6:
                return world.sights.sent();
            default:
                return what >= 11 && what <= 10 + REFUSAL_KINDS ? refusals[what - 11] : NONE;
        }
    }

    private int refuse(int no) {
        int at = -1 - no;
        if (isWithin(at, REFUSAL_KINDS)) {
            refusals[at]++;
        }
        return no;
    }

    private long refuseLong(int no) {
        return LONG_REFUSALS + refuse(no);
    }

    private int noMoon(int m) {
        return isWithin(m, MOONS) && world.moons.there[m] ? FINE : NOBODY;
    }

    private int noSight(int sight) {
        return isWithin(sight, world.sights.size) ? FINE : NOBODY;
    }

    private int cloudedSight(int sight) {
        return isWithin(sight, world.sights.size) && world.sights.kind[sight] == KIND_CLOUDED ? STATE : FINE;
    }

    private int noTable(int table) {
        return isWithin(table, world.tables.size) ? FINE : NOBODY;
    }

    private int noTables() {
        return world.tables.size > 0 ? FINE : STATE;
    }

    private int wrongSet(long set) {
        if (set < 0) {
            return BELOW;
        }
        return set > allSights() ? ROOM : FINE;
    }

    private int wrongHolding(int holder, int day, int m) {
        int no = isWithin(holder, HOLDERS) ? FINE : NOBODY;
        no = then(no, noMoon(m));
        no = then(no, noTables());
        return then(no, outside(day, 0, LAST_DAY));
    }

    private long allSights() {
        return (1L << world.sights.size) - 1;
    }

    private boolean isRowAsTold(int at) {
        for (int i = 0; i < ROW; i++) {
            int v = rows[at + i];
            if (v < 0 || v > ROW_GREATEST[i]) {
                return false;
            }
        }
        return noMoon(rows[at]) == FINE && world.sights.size < MOST_SIGHTS;
    }

    /** Of refusals told one after the other the first one holds. */
    private static int then(int no, int next) {
        return no != FINE ? no : next;
    }

    private static int outside(int n, int least, int greatest) {
        if (n < least) {
            return BELOW;
        }
        return n > greatest ? ROOM : FINE;
    }

    private static boolean isWithin(int i, int size) {
        return i >= 0 && i < size;
    }

    private static int waveOf(int i) {
        return WAVE[i & 7];
    }

    private static void copy(int[] from, int[] to) {
        System.arraycopy(from, 0, to, 0, Math.min(from.length, to.length));
    }

    /** All that the image keeps. */
    private static final class World {
        final int[] settings = {0, 31556952, 10, 50, 60};
        final Moons moons = new Moons();
        final Tools tools = new Tools();
        final Sights sights = new Sights();
        final Tables tables = new Tables();

        void copyFrom(World other) {
            copy(other.settings, settings);
            moons.copyFrom(other.moons);
            tools.copyFrom(other.tools);
            sights.copyFrom(other.sights);
            tables.copyFrom(other.tables);
        }

        int farOf(long t) {
            // no setting is below it, but so the divisor is seen here not to be 0
            int year = Math.max(settings[YEAR], SETTING_LEAST[YEAR]);
            long part = t % year * 2000 / year;
            return (int) Math.min(part, 2000 - part);
        }

        long fadesAt(int m, int k) {
            long at = moons.first[m] + (long) k * moons.period[m] + moons.out[m] * waveOf(k);
            for (int j = 0; j < MOONS; j++) {
                if (j != m && moons.there[j]) {
                    at += moons.pulls[m * MOONS + j] * waveOf(k * (j + 1));
                }
            }
            return at;
        }

        long seenAt(int m, int k) {
            long at = fadesAt(m, k);
            return at + settings[LIGHT] * farOf(at) / 1000;
        }

        long putRight(int s) {
            return sights.second[s] - leanOf(s) - offsetOf(s) + kindOf(s);
        }

        private int leanOf(int s) {
            return tools.lean[sights.eye[s]];
        }

        private int offsetOf(int s) {
            return sights.kind[s] == KIND_FAR ? tools.offset[sights.town[s]] : 0;
        }

        private long kindOf(int s) {
            switch (sights.kind[s]) {
                case KIND_OUT:
                    return -moons.length[sights.moon[s]];
                case KIND_NEAR:
                    return -20;
                case KIND_SMALL:
                    return 30;
                case KIND_CLOCKED:
                    int clock = sights.clock[s];
                    return (long) tools.loss[clock] * (sights.second[s] - tools.clockSet[clock]) / DAY_SECONDS;
                default:
                    return 0;
            }
        }

        long guessedAt(int m, int k) {
            return moons.guessedFirst[m] + (long) k * moons.guessedPeriod[m];
        }

        /** What a term with a number adds to what is said of fading k, whose guess is far off so much. */
        int share(int term, int number, int m, int k, int far) {
            int steps = number * settings[STEP];
            switch (term) {
                case TERM_EVEN:
                    return steps;
                case TERM_OUT:
                    return steps * waveOf(k);
                case TERM_LIGHT:
                    return steps * far / 100;
                default:
                    int j = term - TERM_PULL;
                    return j == m ? 0 : steps * waveOf(k * (j + 1));
            }
        }

        long said(int table, int m, int k, int numbers) {
            long guessed = guessedAt(m, k);
            int far = farOf(guessed);
            long at = guessed;
            int rest = numbers;
            for (int i = 0; i < tables.lengths[table]; i++) {
                at += share(tables.termOf(table, i), rest % NUMBERS - NUMBER_ZERO, m, k, far);
                rest /= NUMBERS;
            }
            return at;
        }

        long leftOf(int s, int table, int numbers) {
            return putRight(s) - said(table, sights.moon[s], sights.fading[s], numbers);
        }

        long seasonOf(int table, int m, long set, int numbers) {
            long sum = 0;
            for (int s = 0; s < sights.size; s++) {
                if (sights.isIn(s, m, set)) {
                    long left = leftOf(s, table, numbers);
                    sum += farOf(guessedAt(m, sights.fading[s])) > 500 ? left : -left;
                }
            }
            return sum;
        }

        int furthestApart(int one, int oneNumbers, int two, int twoNumbers, int m, int a, int b) {
            long furthest = -1;
            int answer = a;
            for (int k = a; k <= b; k++) {
                long gap = Math.abs(said(one, m, k, oneNumbers) - said(two, m, k, twoNumbers));
                if (gap > furthest) {
                    furthest = gap;
                    answer = k;
                }
            }
            return answer;
        }

        boolean hasPair(int a, int b, boolean towns) {
            for (int s = 0; s < sights.size; s++) {
                for (int r = 0; r < sights.size; r++) {
                    if (isPair(s, r, a, b, towns)) {
                        return true;
                    }
                }
            }
            return false;
        }

        long leastApart(int a, int b, boolean towns) {
            long least = ABOVE_ALL;
            for (int s = 0; s < sights.size; s++) {
                for (int r = 0; r < sights.size; r++) {
                    if (isPair(s, r, a, b, towns)) {
                        least = Math.min(least, rawRight(s, towns) - rawRight(r, towns));
                    }
                }
            }
            return least;
        }

        private boolean isPair(int s, int r, int a, int b, boolean towns) {
            boolean theirs = towns
                ? sights.town[s] == a && sights.town[r] == b
                : sights.eye[s] == a && sights.eye[r] == b;
            return theirs && sights.moon[s] == sights.moon[r] && sights.fading[s] == sights.fading[r]
                && sights.kind[s] != KIND_CLOUDED && sights.kind[r] != KIND_CLOUDED;
        }

        /** Put right but for what is looked for: the offset of towns, the lean of eyes. */
        private long rawRight(int s, boolean towns) {
            return putRight(s) + (towns ? offsetOf(s) : leanOf(s));
        }
    }

    /** The moons as they are, and as they are guessed. */
    private static final class Moons {
        final boolean[] there = new boolean[MOONS];
        final int[] first = new int[MOONS];
        final int[] period = new int[MOONS];
        final int[] out = new int[MOONS];
        final int[] length = new int[MOONS];
        final int[] pulls = new int[MOONS * MOONS];
        final int[] guessedFirst = new int[MOONS];
        final int[] guessedPeriod = {LEAST_PERIOD, LEAST_PERIOD, LEAST_PERIOD, LEAST_PERIOD};

        boolean tell(int m, int itsFirst, int itsPeriod, int itsOut, int itsLength) {
            boolean isNew = !there[m];
            there[m] = true;
            first[m] = itsFirst;
            period[m] = itsPeriod;
            out[m] = itsOut;
            length[m] = itsLength;
            return isNew;
        }

        int size() {
            int n = 0;
            for (int m = 0; m < MOONS; m++) {
                n += there[m] ? 1 : 0;
            }
            return n;
        }

        int rhythmOf(int x, int y, int z) {
            long byX = (long) period[y] * period[z];
            long byY = (long) period[x] * period[z];
            long byZ = (long) period[x] * period[y];
            long least = ABOVE_ALL;
            int answer = 0;
            for (int i = 0; i < ALL_NUMBERS; i++) {
                int a = i / 49 - NUMBER_ZERO;
                int b = i / NUMBERS % NUMBERS - NUMBER_ZERO;
                int c = i % NUMBERS - NUMBER_ZERO;
                boolean leadsAbove = a != 0 ? a > 0 : b != 0 ? b > 0 : c > 0;
                long off = Math.abs(a * byX + b * byY + c * byZ);
                if (leadsAbove && off < least) {
                    least = off;
                    answer = 100 * (a + 3) + 10 * (b + 3) + c + 3;
                }
            }
            return answer;
        }

        void copyFrom(Moons other) {
            for (int m = 0; m < MOONS; m++) {
                there[m] = other.there[m];
            }
            copy(other.first, first);
            copy(other.period, period);
            copy(other.out, out);
            copy(other.length, length);
            copy(other.pulls, pulls);
            copy(other.guessedFirst, guessedFirst);
            copy(other.guessedPeriod, guessedPeriod);
        }
    }

    /** What eyes, clocks and towns are off by. */
    private static final class Tools {
        final int[] lean = new int[EYES];
        final int[] loss = new int[CLOCKS];
        final int[] clockSet = new int[CLOCKS];
        final int[] offset = new int[TOWNS];

        int[] rowOf(int what) {
            switch (what) {
                case LEANS:
                    return lean;
                case LOSSES:
                    return loss;
                case CLOCK_SETS:
                    return clockSet;
                default:
                    return offset;
            }
        }

        void copyFrom(Tools other) {
            for (int what = LEANS; what <= OFFSETS; what++) {
                copy(other.rowOf(what), rowOf(what));
            }
        }
    }

    /** The sights, and the days on which they come to holders. */
    private static final class Sights {
        final int[] moon = new int[MOST_SIGHTS];
        final int[] fading = new int[MOST_SIGHTS];
        final int[] kind = new int[MOST_SIGHTS];
        final int[] eye = new int[MOST_SIGHTS];
        final int[] clock = new int[MOST_SIGHTS];
        final int[] town = new int[MOST_SIGHTS];
        final int[] second = new int[MOST_SIGHTS];
        final int[] days = new int[MOST_SIGHTS * HOLDERS];
        int size;

        void add(int m, int k, int itsKind, int itsEye, int itsClock, int itsTown, int itsSecond) {
            if (size >= MOST_SIGHTS) {
                return;
            }
            moon[size] = m;
            fading[size] = k;
            kind[size] = itsKind;
            eye[size] = itsEye;
            clock[size] = itsClock;
            town[size] = itsTown;
            second[size] = itsSecond;
            for (int h = 0; h < HOLDERS; h++) {
                days[size * HOLDERS + h] = NONE;
            }
            size++;
        }

        boolean isIn(int s, int m, long set) {
            return (set >>> s & 1) == 1 && moon[s] == m && kind[s] != KIND_CLOUDED;
        }

        int post(int s, int holder, int day) {
            int at = s * HOLDERS + holder;
            int was = days[at];
            days[at] = day;
            return was;
        }

        long cameTo(int holder, int day) {
            long bits = 0;
            for (int s = 0; s < size; s++) {
                int came = days[s * HOLDERS + holder];
                if (came != NONE && came <= day) {
                    bits |= 1L << s;
                }
            }
            return bits;
        }

        int sentOf(int s) {
            int n = 0;
            for (int h = 0; h < HOLDERS; h++) {
                n += days[s * HOLDERS + h] != NONE ? 1 : 0;
            }
            return n;
        }

        int sent() {
            int n = 0;
            for (int s = 0; s < size; s++) {
                n += sentOf(s);
            }
            return n;
        }

        int clouded() {
            int n = 0;
            for (int s = 0; s < size; s++) {
                n += kind[s] == KIND_CLOUDED ? 1 : 0;
            }
            return n;
        }

        void copyFrom(Sights other) {
            copy(other.moon, moon);
            copy(other.fading, fading);
            copy(other.kind, kind);
            copy(other.eye, eye);
            copy(other.clock, clock);
            copy(other.town, town);
            copy(other.second, second);
            copy(other.days, days);
            size = other.size;
        }
    }

    /** The terms of each table, in the order of its text. */
    private static final class Tables {
        final int[] terms = new int[MOST_TABLES * MOST_TERMS];
        final int[] lengths = new int[MOST_TABLES];
        int size;

        void add(Text text) {
            if (size >= MOST_TABLES) {
                return;
            }
            for (int i = 0; i < text.termCount; i++) {
                terms[size * MOST_TERMS + i] = text.terms[i];
            }
            lengths[size] = text.termCount;
            size++;
        }

        int termOf(int table, int i) {
            return terms[table * MOST_TERMS + i];
        }

        int placeOf(int table, int term) {
            for (int i = 0; i < lengths[table]; i++) {
                if (termOf(table, i) == term) {
                    return i;
                }
            }
            return -1;
        }

        void copyFrom(Tables other) {
            copy(other.terms, terms);
            copy(other.lengths, lengths);
            size = other.size;
        }
    }

    /** The text that may become a table, and the terms that were found in it. */
    private static final class Text {
        final int[] bytes = new int[MOST_BYTES];
        int size;
        final int[] terms = new int[MOST_TERMS];
        int termCount;

        void add(int b) {
            if (size < MOST_BYTES) {
                bytes[size] = b;
                size++;
            }
        }

        /** Where the text can not stand, -1 if it can. */
        int faultPlace() {
            termCount = 0;
            int at = 0;
            while (at <= size) {
                int fault = readTerm(at);
                if (fault >= 0) {
                    return fault;
                }
                at += bytes[at] == 'p' ? 2 : 1;
                if (at >= size) {
                    return -1;
                }
                if (bytes[at] != '+') {
                    return at;
                }
                at++;
            }
            return size;
        }

        private int readTerm(int at) {
            if (at >= size || termCount >= MOST_TERMS) {
                return at;
            }
            int term = termAt(at);
            if (term < 0) {
                return bytes[at] == 'p' ? at + 1 : at;
            }
            for (int i = 0; i < termCount; i++) {
                if (terms[i] == term) {
                    return at;
                }
            }
            terms[termCount] = term;
            termCount++;
            return -1;
        }

        private int termAt(int at) {
            switch (bytes[at]) {
                case 'e':
                    return TERM_EVEN;
                case 'o':
                    return TERM_OUT;
                case 'l':
                    return TERM_LIGHT;
                case 'p':
                    int j = at + 1 < size ? bytes[at + 1] - '0' : -1;
                    return isWithin(j, MOONS) ? TERM_PULL + j : -1;
                default:
                    return -1;
            }
        }
    }

    /**
     * A table's terms tried with all their numbers on sights of one moon. The tries stand in the order
     * in which a fit looks at them, the first term's number slowest, so that the first least one is the fit.
     */
    private static final class Fitter {
        private final World world;
        private final long[] lefts;
        private final long[] sums = new long[ALL_NUMBERS];
        private final int[] shares = new int[NUMBERS];
        private final int[] terms = new int[MOST_TERMS];
        private int termCount;
        private int tries;
        private int ofMoon;

        /** The row of lefts may be shared: no step needs what another one left in it. */
        Fitter(World world, long[] lefts) {
            this.world = world;
            this.lefts = lefts;
        }

        /** Begins with no sights; the term at the place without stays out. */
        void start(int table, int without, int m) {
            ofMoon = m;
            termCount = 0;
            for (int i = 0; i < world.tables.lengths[table]; i++) {
                if (i != without) {
                    terms[termCount] = world.tables.termOf(table, i);
                    termCount++;
                }
            }
            tries = NUMBERS_TO[termCount];
            for (int c = 0; c < tries; c++) {
                sums[c] = 0;
            }
        }

        void addSet(long set) {
            for (int s = 0; s < world.sights.size; s++) {
                if (world.sights.isIn(s, ofMoon, set)) {
                    addSight(s);
                }
            }
        }

        void addSight(int s) {
            spread(s);
            for (int c = 0; c < tries; c++) {
                sums[c] += Math.abs(lefts[c]);
            }
        }

        void dropSight(int s) {
            spread(s);
            for (int c = 0; c < tries; c++) {
                sums[c] -= Math.abs(lefts[c]);
            }
        }

        private int fitTry() {
            int least = 0;
            for (int c = 1; c < tries; c++) {
                if (sums[c] < sums[least]) {
                    least = c;
                }
            }
            return least;
        }

        /** The fit as the calls tell it: the first term's number is the lowest digit. */
        int fitNumbers() {
            int fit = fitTry();
            int numbers = 0;
            for (int i = 0; i < termCount; i++) {
                numbers += digitOf(fit, i) * NUMBERS_TO[i];
            }
            return numbers;
        }

        long leastSum() {
            return sums[fitTry()];
        }

        long score() {
            return leastSum() + price();
        }

        long scoreWith(int s) {
            spread(s);
            long least = ABOVE_ALL;
            for (int c = 0; c < tries; c++) {
                least = Math.min(least, sums[c] + Math.abs(lefts[c]));
            }
            return least + price();
        }

        /** Bits of the numbers of the term at a place with which some try leaves no sight more than slack. */
        int bitsWithin(int slack, int place) {
            for (int s = 0; s < world.sights.size; s++) {
                if (world.sights.isIn(s, ofMoon, -1L)) {
                    spread(s);
                    for (int c = 0; c < tries; c++) {
                        sums[c] = Math.max(sums[c], Math.abs(lefts[c]));
                    }
                }
            }
            int bits = 0;
            for (int c = 0; c < tries; c++) {
                if (sums[c] <= slack) {
                    bits |= 1 << digitOf(c, place);
                }
            }
            return bits;
        }

        private long price() {
            return (long) world.settings[PRICE] * termCount;
        }

        private int digitOf(int c, int place) {
            return c / NUMBERS_TO[termCount - 1 - place] % NUMBERS;
        }

        /** What is left of a sight by each try. */
        private void spread(int s) {
            int k = world.sights.fading[s];
            long guessed = world.guessedAt(ofMoon, k);
            int far = world.farOf(guessed);
            lefts[0] = world.putRight(s) - guessed;
            for (int i = 0; i < termCount; i++) {
                for (int d = 0; d < NUMBERS; d++) {
                    shares[d] = world.share(terms[i], d - NUMBER_ZERO, ofMoon, k, far);
                }
                widen(NUMBERS_TO[i]);
            }
        }

        /** Each of so many lefts becomes seven; from the last on, as the row is widened within itself. */
        private void widen(int filled) {
            for (int at = filled - 1; at >= 0; at--) {
                long left = lefts[at];
                for (int d = 0; d < NUMBERS; d++) {
                    lefts[at * NUMBERS + d] = left - shares[d];
                }
            }
        }
    }

    /** Holds the tables against each other by what sights leave of them. */
    private static final class Judge {
        private final World world;
        private final Fitter[] fitters = new Fitter[MOST_TABLES];
        private final int[] others = new int[TURN_SIGHTS];

        Judge(World world) {
            this.world = world;
            long[] lefts = new long[ALL_NUMBERS];
            for (int t = 0; t < MOST_TABLES; t++) {
                fitters[t] = new Fitter(world, lefts);
            }
        }

        /** One table's fitter with the sights of a set, without one term or WHOLE. */
        Fitter fitted(int table, int without, int m, long set) {
            Fitter fitter = fitters[table];
            fitter.start(table, without, m);
            fitter.addSet(set);
            return fitter;
        }

        void gather(int m, long set) {
            for (int t = 0; t < world.tables.size; t++) {
                fitters[t].start(t, WHOLE, m);
                fitters[t].addSet(set);
            }
        }

        /** The best table by what was gathered. */
        int bestNow() {
            int best = 0;
            long least = ABOVE_ALL;
            for (int t = 0; t < world.tables.size; t++) {
                long score = fitters[t].score();
                if (score < least) {
                    least = score;
                    best = t;
                }
            }
            return best;
        }

        int lightOfAll(int table) {
            int place = world.tables.placeOf(table, TERM_LIGHT);
            int bits = (1 << NUMBERS) - 1;
            for (int m = 0; m < MOONS; m++) {
                if (world.moons.there[m]) {
                    fitters[table].start(table, WHOLE, m);
                    bits &= fitters[table].bitsWithin(world.settings[SLACK], place);
                }
            }
            return bits;
        }

        /** Had are the sights that were gathered. */
        long turningSights(int m, long had) {
            int believed = bestNow();
            int found = findOthers(m, had);
            for (int i = 0; i < found; i++) {
                if (bestWith(others[i]) != believed) {
                    return 1L << others[i];
                }
            }
            // of pairs the least as bits come with the later sight in the outer loop
            for (int j = 1; j < found; j++) {
                addToAll(others[j]);
                for (int i = 0; i < j; i++) {
                    if (bestWith(others[i]) != believed) {
                        return 1L << others[i] | 1L << others[j];
                    }
                }
                dropFromAll(others[j]);
            }
            return NONE;
        }

        private int findOthers(int m, long had) {
            int found = 0;
            for (int s = 0; s < world.sights.size && found < TURN_SIGHTS; s++) {
                if (world.sights.isIn(s, m, ~had)) {
                    others[found] = s;
                    found++;
                }
            }
            return found;
        }

        private int bestWith(int s) {
            int best = 0;
            long least = ABOVE_ALL;
            for (int t = 0; t < world.tables.size; t++) {
                long score = fitters[t].scoreWith(s);
                if (score < least) {
                    least = score;
                    best = t;
                }
            }
            return best;
        }

        private void addToAll(int s) {
            for (int t = 0; t < world.tables.size; t++) {
                fitters[t].addSight(s);
            }
        }

        private void dropFromAll(int s) {
            for (int t = 0; t < world.tables.size; t++) {
                fitters[t].dropSight(s);
            }
        }
    }

    /** Finds the nights that part the tables most. */
    private static final class Watcher {
        private final World world;
        private final long[] heard = new long[MOST_TABLES * MOST_NIGHTS];
        private final long[] gaps = new long[TABLE_PAIRS * MOST_NIGHTS];
        private final int[] picked = new int[MOST_WATCHED];
        private int pairs;

        Watcher(World world) {
            this.world = world;
        }

        void hear(int table, int m, int a, int nights, int numbers) {
            for (int i = 0; i < nights; i++) {
                heard[table * MOST_NIGHTS + i] = world.said(table, m, a + i, numbers);
            }
        }

        void compareTables(int nights) {
            pairs = 0;
            for (int t = 0; t < world.tables.size; t++) {
                for (int u = 0; u < t; u++) {
                    for (int i = 0; i < nights; i++) {
                        gaps[pairs * MOST_NIGHTS + i] =
                            Math.abs(heard[t * MOST_NIGHTS + i] - heard[u * MOST_NIGHTS + i]);
                    }
                    pairs++;
                }
            }
        }

        int bestNights(int nights, int n) {
            long most = -1;
            int answer = 0;
            for (int bits = 0; bits < 1 << nights; bits++) {
                if (Integer.bitCount(bits) == n) {
                    pick(bits, nights);
                    long apart = gapsOfPicked(n);
                    if (apart > most) {
                        most = apart;
                        answer = bits;
                    }
                }
            }
            return answer;
        }

        private void pick(int bits, int nights) {
            int n = 0;
            for (int i = 0; i < nights && n < MOST_WATCHED; i++) {
                if ((bits >> i & 1) == 1) {
                    picked[n] = i;
                    n++;
                }
            }
        }

        private long gapsOfPicked(int n) {
            long sum = 0;
            for (int p = 0; p < pairs; p++) {
                long furthest = 0;
                for (int i = 0; i < n; i++) {
                    furthest = Math.max(furthest, gaps[p * MOST_NIGHTS + picked[i]]);
                }
                sum += furthest;
            }
            return sum;
        }
    }
}
