import java.util.ArrayList;
import java.util.Arrays;
import java.util.List;

/** The document once more, as plainly as can be and as slowly as it likes: what LateMoons is held against. */
final class PlainMoons {
    static final class Moon {
        long first;
        long period;
        long out;
        long length;
        long[] pulls = new long[4];

        Moon copy() {
            Moon c = new Moon();
            c.first = first;
            c.period = period;
            c.out = out;
            c.length = length;
            c.pulls = pulls.clone();
            return c;
        }
    }

    static final class Sight {
        int moon;
        int k;
        int kind;
        int eye;
        int clock;
        int town;
        long second;
        int[] days = {-9, -9, -9, -9};

        Sight copy() {
            Sight c = new Sight();
            c.moon = moon;
            c.k = k;
            c.kind = kind;
            c.eye = eye;
            c.clock = clock;
            c.town = town;
            c.second = second;
            c.days = days.clone();
            return c;
        }
    }

    static final class State {
        Moon[] moons = new Moon[4];
        long[] settings = {0, 31556952, 10, 50, 60};
        long[][] tools = {new long[6], new long[4], new long[4], new long[4]};
        List<Sight> sights = new ArrayList<>();
        List<List<String>> tables = new ArrayList<>();
        long[] guessFirst = new long[4];
        long[] guessPeriod = {1000, 1000, 1000, 1000};

        State copy() {
            State c = new State();
            for (int m = 0; m < 4; m++) {
                c.moons[m] = moons[m] == null ? null : moons[m].copy();
            }
            c.settings = settings.clone();
            for (int i = 0; i < 4; i++) {
                c.tools[i] = tools[i].clone();
            }
            for (Sight s : sights) {
                c.sights.add(s.copy());
            }
            for (List<String> t : tables) {
                c.tables.add(new ArrayList<>(t));
            }
            c.guessFirst = guessFirst.clone();
            c.guessPeriod = guessPeriod.clone();
            return c;
        }
    }

    private static final long[][] SETTING_RANGE = {{0, 2000}, {1000, 99999999}, {1, 60}, {0, 9999}, {0, 999}};
    private static final long[][] TOOL_RANGE = {{-99, 99}, {-99, 99}, {0, 999999999}, {-43200, 43200}};

    private State now = new State();
    private State kept;
    private final List<Integer> rows = new ArrayList<>();
    private String text = "";
    private final int[] refused = new int[7];

    private int no(int code) {
        refused[-code]++;
        return code;
    }

    private long noLong(int code) {
        return -4000000000000000000L + no(code);
    }

    private boolean isMoon(int m) {
        return m >= 0 && m <= 3 && now.moons[m] != null;
    }

    private boolean isTable(int t) {
        return t >= 0 && t < now.tables.size();
    }

    private boolean isSight(int s) {
        return s >= 0 && s < now.sights.size();
    }

    private boolean tooMany(long set) {
        for (int i = now.sights.size(); i < 63; i++) {
            if ((set >> i & 1) == 1) {
                return true;
            }
        }
        return false;
    }

    private static long wave(long i) {
        switch ((int) (i % 8)) {
            case 1:
            case 3:
                return 3;
            case 2:
                return 4;
            case 5:
            case 7:
                return -3;
            case 6:
                return -4;
            default:
                return 0;
        }
    }

    private long farOf(long t) {
        long year = now.settings[1];
        long part = (t % year) * 2000 / year;
        return part < 2000 - part ? part : 2000 - part;
    }

    int moon(int m, int first, int period, int out, int length) {
        if (m < 0 || m > 3) return no(-1);
        if (first < 0) return no(-4);
        if (first > 999999) return no(-6);
        if (period < 1000) return no(-4);
        if (period > 999999) return no(-6);
        if (out < 0) return no(-4);
        if (out > 99) return no(-6);
        if (length < 0) return no(-4);
        if (length > 9999) return no(-6);
        boolean fresh = now.moons[m] == null;
        if (fresh) now.moons[m] = new Moon();
        now.moons[m].first = first;
        now.moons[m].period = period;
        now.moons[m].out = out;
        now.moons[m].length = length;
        return fresh ? 1 : 0;
    }

    int pull(int m, int by, int n) {
        if (!isMoon(m) || !isMoon(by) || m == by) return no(-1) - 100;
        if (n < -9) return no(-4) - 100;
        if (n > 9) return no(-6) - 100;
        long was = now.moons[m].pulls[by];
        now.moons[m].pulls[by] = n;
        return (int) was;
    }

    int set(int what, int n) {
        if (what < 0 || what > 4) return no(-2);
        if (n < SETTING_RANGE[what][0]) return no(-4);
        if (n > SETTING_RANGE[what][1]) return no(-6);
        long was = now.settings[what];
        now.settings[what] = n;
        return (int) was;
    }

    private long fades(int m, int k, boolean seen) {
        Moon moon = now.moons[m];
        long t = moon.first + k * moon.period + moon.out * wave(k);
        for (int j = 0; j < 4; j++) {
            if (j != m && now.moons[j] != null) t += moon.pulls[j] * wave((long) k * (j + 1));
        }
        return seen ? t + now.settings[0] * farOf(t) / 1000 : t;
    }

    long fading(int m, int k, boolean seen) {
        if (!isMoon(m)) return noLong(-1);
        if (k < 0) return noLong(-4);
        if (k > 999) return noLong(-6);
        return fades(m, k, seen);
    }

    /** For those who draw sights: when a fading is seen, -1 if there is none; no call, nothing is counted. */
    long peek(int m, int k) {
        return isMoon(m) && k >= 0 && k <= 999 ? fades(m, k, true) : -1;
    }

    int far(int t) {
        if (t < 0) return no(-4);
        if (t > 1999999999) return no(-6);
        return (int) farOf(t);
    }

    int tool(int what, int i, int n) {
        if (what < 0 || what > 3) return no(-2);
        if (i < 0 || i >= now.tools[what].length) return no(-1);
        if (n < TOOL_RANGE[what][0]) return no(-4);
        if (n > TOOL_RANGE[what][1]) return no(-6);
        now.tools[what][i] = n;
        return 1;
    }

    int sight(int m, int k, int told, int second) {
        if (!isMoon(m)) return no(-1);
        if (told < 0 || told > 7999) return no(-2);
        String digits = String.format("%04d", told);
        if (digits.charAt(1) > '5' || digits.charAt(2) > '3' || digits.charAt(3) > '3') return no(-1);
        if (k < 0 || second < 0) return no(-4);
        if (k > 999 || second > 1999999999) return no(-6);
        if (now.sights.size() == 40) return no(-6);
        Sight s = new Sight();
        s.moon = m;
        s.k = k;
        s.kind = digits.charAt(0) - '0';
        s.eye = digits.charAt(1) - '0';
        s.clock = digits.charAt(2) - '0';
        s.town = digits.charAt(3) - '0';
        s.second = second;
        now.sights.add(s);
        return now.sights.size() - 1;
    }

    private long putRight(Sight s, boolean lean, boolean offset) {
        long t = s.second;
        if (lean) t = t - now.tools[0][s.eye];
        if (s.kind == 2) t = t - now.moons[s.moon].length;
        if (s.kind == 3) t = t - 20;
        if (s.kind == 4) t = t + 30;
        if (s.kind == 6) t = t + now.tools[1][s.clock] * (s.second - now.tools[2][s.clock]) / 86400;
        if (s.kind == 7 && offset) t = t - now.tools[3][s.town];
        return t;
    }

    long right(int sight) {
        if (!isSight(sight)) return noLong(-1);
        if (now.sights.get(sight).kind == 5) return noLong(-3);
        return putRight(now.sights.get(sight), true, true);
    }

    int put(int v) {
        if (rows.size() == 80) return no(-6);
        rows.add(v);
        return rows.size();
    }

    int read() {
        int[] most = {3, 999, 7, 5, 3, 3, 19999, 99999};
        int came = 0;
        boolean clouded = false;
        while (!clouded && rows.size() >= 8) {
            for (int i = 0; i < 8; i++) {
                if (rows.get(i) < 0 || rows.get(i) > most[i]) clouded = true;
            }
            if (!clouded && now.moons[rows.get(0)] == null) clouded = true;
            if (now.sights.size() == 40) clouded = true;
            if (!clouded) {
                Sight s = new Sight();
                s.moon = rows.get(0);
                s.k = rows.get(1);
                s.kind = rows.get(2);
                s.eye = rows.get(3);
                s.clock = rows.get(4);
                s.town = rows.get(5);
                s.second = rows.get(6) * 100000L + rows.get(7);
                now.sights.add(s);
                came++;
                rows.subList(0, 8).clear();
            }
        }
        rows.clear();
        return came;
    }

    int takeBack() {
        if (now.sights.isEmpty()) return no(-3);
        Sight latest = now.sights.get(now.sights.size() - 1);
        if (!Arrays.equals(latest.days, new int[] {-9, -9, -9, -9})) return no(-3);
        now.sights.remove(now.sights.size() - 1);
        return now.sights.size();
    }

    int feed(int n, long bytes) {
        if (n < 1) return no(-4);
        if (n > 8) return no(-6);
        if (text.length() + n > 20) return no(-6);
        for (int i = 0; i < n; i++) {
            text += (char) (bytes & 255);
            bytes >>>= 8;
        }
        return text.length();
    }

    int table() {
        if (now.tables.size() == 8) return no(-6);
        String t = text;
        text = "";
        List<String> terms = new ArrayList<>();
        int at = 0;
        while (true) {
            if (at == t.length()) return -20 - at;
            if (terms.size() == 3) return -20 - at;
            String term = t.substring(at, at + 1);
            if (!"eolp".contains(term)) return -20 - at;
            if (term.equals("p")) {
                if (at + 1 == t.length() || "0123".indexOf(t.charAt(at + 1)) < 0) return -20 - (at + 1);
                term = t.substring(at, at + 2);
            }
            if (terms.contains(term)) return -20 - at;
            terms.add(term);
            at += term.length();
            if (at == t.length()) break;
            if (t.charAt(at) != '+') return -20 - at;
            at++;
        }
        now.tables.add(terms);
        return now.tables.size() - 1;
    }

    int guess(int m, int first, int period) {
        if (m < 0 || m > 3) return no(-1);
        if (first < 0 || period < 1000) return no(-4);
        if (first > 999999 || period > 999999) return no(-6);
        now.guessFirst[m] = first;
        now.guessPeriod[m] = period;
        return 1;
    }

    private long guessed(int m, int k) {
        return now.guessFirst[m] + k * now.guessPeriod[m];
    }

    private long sayIt(List<String> terms, int[] numbers, int m, int k) {
        long g = guessed(m, k);
        long t = g;
        long step = now.settings[2];
        for (int i = 0; i < terms.size(); i++) {
            long n = numbers[i];
            switch (terms.get(i)) {
                case "e":
                    t += n * step;
                    break;
                case "o":
                    t += n * step * wave(k);
                    break;
                case "l":
                    t += n * step * farOf(g) / 100;
                    break;
                default:
                    int j = terms.get(i).charAt(1) - '0';
                    if (j != m) t += n * step * wave((long) k * (j + 1));
            }
        }
        return t;
    }

    long says(int table, int m, int k, int numbers) {
        if (!isTable(table) || !isMoon(m)) return noLong(-1);
        if (k < 0) return noLong(-4);
        if (k > 999) return noLong(-6);
        List<String> terms = now.tables.get(table);
        int[] told = new int[terms.size()];
        int rest = numbers;
        for (int i = 0; i < told.length; i++) {
            told[i] = rest % 7 - 3;
            rest /= 7;
        }
        if (numbers < 0) return noLong(-4);
        if (rest > 0) return noLong(-6);
        return sayIt(terms, told, m, k);
    }

    private List<Sight> sightsOf(int m, long set) {
        List<Sight> found = new ArrayList<>();
        for (int i = 0; i < now.sights.size(); i++) {
            Sight s = now.sights.get(i);
            if ((set >> i & 1) == 1 && s.moon == m && s.kind != 5) found.add(s);
        }
        return found;
    }

    private long leftOf(Sight s, List<String> terms, int[] numbers) {
        return putRight(s, true, true) - sayIt(terms, numbers, s.moon, s.k);
    }

    private long sumOf(List<String> terms, int[] numbers, int m, long set) {
        long sum = 0;
        for (Sight s : sightsOf(m, set)) {
            sum += Math.abs(leftOf(s, terms, numbers));
        }
        return sum;
    }

    /** All numbers of so many terms, in the order of a fit. */
    private static List<int[]> allNumbers(int terms) {
        List<int[]> all = new ArrayList<>();
        all.add(new int[0]);
        for (int i = 0; i < terms; i++) {
            List<int[]> longer = new ArrayList<>();
            for (int[] a : all) {
                for (int n = -3; n <= 3; n++) {
                    int[] b = Arrays.copyOf(a, a.length + 1);
                    b[a.length] = n;
                    longer.add(b);
                }
            }
            all = longer;
        }
        return all;
    }

    private int[] fitOf(List<String> terms, int m, long set) {
        int[] best = null;
        long least = 0;
        for (int[] numbers : allNumbers(terms.size())) {
            long sum = sumOf(terms, numbers, m, set);
            if (best == null || sum < least) {
                best = numbers;
                least = sum;
            }
        }
        return best;
    }

    private long scoreOf(List<String> terms, int m, long set) {
        return sumOf(terms, fitOf(terms, m, set), m, set) + now.settings[3] * terms.size();
    }

    long fit(int table, int m, long set, int what) {
        if (!isTable(table) || !isMoon(m)) return noLong(-1);
        if (what < 0 || what > 2) return noLong(-2);
        if (set < 0) return noLong(-4);
        if (tooMany(set)) return noLong(-6);
        List<String> terms = now.tables.get(table);
        int[] numbers = fitOf(terms, m, set);
        if (what == 1) return scoreOf(terms, m, set);
        if (what == 2) return sumOf(terms, numbers, m, set);
        int code = 0;
        for (int i = numbers.length - 1; i >= 0; i--) {
            code = code * 7 + numbers[i] + 3;
        }
        return code;
    }

    long left(int table, int sight, long set) {
        if (!isTable(table) || !isSight(sight)) return noLong(-1);
        Sight s = now.sights.get(sight);
        if (s.kind == 5) return noLong(-3);
        if (set < 0) return noLong(-4);
        if (tooMany(set)) return noLong(-6);
        List<String> terms = now.tables.get(table);
        return leftOf(s, terms, fitOf(terms, s.moon, set));
    }

    long season(int table, int m, long set) {
        if (!isTable(table) || !isMoon(m)) return noLong(-1);
        if (set < 0) return noLong(-4);
        if (tooMany(set)) return noLong(-6);
        List<String> terms = now.tables.get(table);
        int[] numbers = fitOf(terms, m, set);
        long high = 0;
        long low = 0;
        for (Sight s : sightsOf(m, set)) {
            if (farOf(guessed(m, s.k)) > 500) high += leftOf(s, terms, numbers);
            else low += leftOf(s, terms, numbers);
        }
        return high - low;
    }

    long worth(int table, int term, int m, long set) {
        if (!isTable(table) || !isMoon(m)) return noLong(-1);
        List<String> terms = now.tables.get(table);
        if (term < 0 || term >= terms.size()) return noLong(-1);
        if (set < 0) return noLong(-4);
        if (tooMany(set)) return noLong(-6);
        List<String> fewer = new ArrayList<>(terms);
        fewer.remove(term);
        return scoreOf(fewer, m, set) - scoreOf(terms, m, set);
    }

    private int bestOf(int m, long set) {
        int best = 0;
        long least = scoreOf(now.tables.get(0), m, set);
        for (int t = 1; t < now.tables.size(); t++) {
            long score = scoreOf(now.tables.get(t), m, set);
            if (score < least) {
                least = score;
                best = t;
            }
        }
        return best;
    }

    int best(int m, long set) {
        if (!isMoon(m)) return no(-1);
        if (now.tables.isEmpty()) return no(-3);
        if (set < 0) return no(-4);
        if (tooMany(set)) return no(-6);
        return bestOf(m, set);
    }

    int allMoons(int table) {
        if (!isTable(table) || !now.tables.get(table).contains("l")) return no(-1);
        List<String> terms = now.tables.get(table);
        int light = terms.indexOf("l");
        int bits = 0;
        for (int n = -3; n <= 3; n++) {
            boolean all = true;
            for (int m = 0; m < 4; m++) {
                if (now.moons[m] != null) {
                    boolean any = false;
                    for (int[] numbers : allNumbers(terms.size())) {
                        boolean near = numbers[light] == n;
                        for (Sight s : sightsOf(m, -1L)) {
                            near = near && Math.abs(leftOf(s, terms, numbers)) <= now.settings[4];
                        }
                        any = any || near;
                    }
                    all = all && any;
                }
            }
            if (all) bits += 1 << (n + 3);
        }
        return bits;
    }

    long foretold(int table, int m, int k, long set, boolean err) {
        if (!isTable(table) || !isMoon(m)) return noLong(-1);
        if (k < 0) return noLong(-4);
        if (k > 999) return noLong(-6);
        if (set < 0) return noLong(-4);
        if (tooMany(set)) return noLong(-6);
        List<String> terms = now.tables.get(table);
        long said = sayIt(terms, fitOf(terms, m, set), m, k);
        return err ? fades(m, k, true) - said : said;
    }

    int parts(int one, int two, int m, int a, int b) {
        if (!isTable(one) || !isTable(two) || !isMoon(m)) return no(-1);
        if (a < 0 || b < 0) return no(-4);
        if (a > 999 || b > 999) return no(-6);
        if (b < a) return no(-3);
        List<String> first = now.tables.get(one);
        List<String> second = now.tables.get(two);
        int[] firstFit = fitOf(first, m, -1L);
        int[] secondFit = fitOf(second, m, -1L);
        int answer = a;
        long furthest = 0;
        for (int k = a; k <= b; k++) {
            long gap = Math.abs(sayIt(first, firstFit, m, k) - sayIt(second, secondFit, m, k));
            if (gap > furthest) {
                furthest = gap;
                answer = k;
            }
        }
        return answer;
    }

    int rhythm(int x, int y, int z) {
        if (!isMoon(x) || !isMoon(y) || !isMoon(z) || x == y || x == z || y == z) return no(-1);
        long px = now.moons[x].period;
        long py = now.moons[y].period;
        long pz = now.moons[z].period;
        long least = Long.MAX_VALUE;
        int answer = 0;
        for (int a = -3; a <= 3; a++) {
            for (int b = -3; b <= 3; b++) {
                for (int c = -3; c <= 3; c++) {
                    int lead = a != 0 ? a : b != 0 ? b : c;
                    long off = Math.abs(a * py * pz + b * px * pz + c * px * py);
                    if (lead > 0 && off < least) {
                        least = off;
                        answer = 100 * (a + 3) + 10 * (b + 3) + (c + 3);
                    }
                }
            }
        }
        return answer;
    }

    long apart(int a, int b, int what) {
        if (what < 0 || what > 3) return noLong(-2);
        boolean towns = what < 2;
        int most = towns ? 3 : 5;
        if (a < 0 || a > most || b < 0 || b > most || a == b) return noLong(-1);
        List<Long> all = new ArrayList<>();
        for (Sight s : now.sights) {
            for (Sight r : now.sights) {
                boolean both = towns ? s.town == a && r.town == b : s.eye == a && r.eye == b;
                if (both && s.kind != 5 && r.kind != 5 && s.moon == r.moon && s.k == r.k) {
                    all.add(putRight(s, towns, !towns) - putRight(r, towns, !towns));
                }
            }
        }
        if (all.isEmpty()) return noLong(-3);
        all.sort(null);
        return all.get(what % 2 == 0 ? 0 : all.size() - 1);
    }

    int send(int sight, int holder, int day) {
        if (!isSight(sight) || holder < 0 || holder > 3) return no(-1);
        if (day < -1) return no(-4);
        if (day > 999) return no(-6);
        Sight s = now.sights.get(sight);
        int was = s.days[holder];
        s.days[holder] = day == -1 ? -9 : day;
        return was;
    }

    private long hasBy(int holder, int day) {
        long bits = 0;
        for (int i = 0; i < now.sights.size(); i++) {
            int came = now.sights.get(i).days[holder];
            if (came >= 0 && came <= day) bits += 1L << i;
        }
        return bits;
    }

    long has(int holder, int day) {
        if (holder < 0 || holder > 3) return noLong(-1);
        if (day < 0) return noLong(-4);
        if (day > 999) return noLong(-6);
        return hasBy(holder, day);
    }

    int believes(int holder, int day, int m) {
        if (holder < 0 || holder > 3 || !isMoon(m)) return no(-1);
        if (now.tables.isEmpty()) return no(-3);
        if (day < 0) return no(-4);
        if (day > 999) return no(-6);
        return bestOf(m, hasBy(holder, day));
    }

    long turn(int holder, int day, int m) {
        if (holder < 0 || holder > 3 || !isMoon(m)) return noLong(-1);
        if (now.tables.isEmpty()) return noLong(-3);
        if (day < 0) return noLong(-4);
        if (day > 999) return noLong(-6);
        long had = hasBy(holder, day);
        int believed = bestOf(m, had);
        List<Long> others = new ArrayList<>();
        for (int i = 0; i < now.sights.size() && others.size() < 8; i++) {
            Sight s = now.sights.get(i);
            if ((had >> i & 1) == 0 && s.moon == m && s.kind != 5) others.add(1L << i);
        }
        for (int size = 1; size <= 2; size++) {
            long least = -9;
            for (int choice = 0; choice < 1 << others.size(); choice++) {
                if (Integer.bitCount(choice) == size) {
                    long bits = 0;
                    for (int i = 0; i < others.size(); i++) {
                        if ((choice >> i & 1) == 1) bits += others.get(i);
                    }
                    if (bestOf(m, had | bits) != believed && (least == -9 || bits < least)) least = bits;
                }
            }
            if (least != -9) return least;
        }
        return -9;
    }

    int watch(int m, int a, int b, int n) {
        if (!isMoon(m)) return no(-1);
        if (n < 1 || a < 0 || b < 0) return no(-4);
        if (n > 4 || a > 999 || b > 999) return no(-6);
        if (b - a + 1 > 12) return no(-6);
        if (b < a || b - a + 1 < n) return no(-3);
        int tables = now.tables.size();
        long[][] said = new long[tables][b - a + 1];
        for (int t = 0; t < tables; t++) {
            int[] numbers = fitOf(now.tables.get(t), m, -1L);
            for (int k = a; k <= b; k++) {
                said[t][k - a] = sayIt(now.tables.get(t), numbers, m, k);
            }
        }
        int answer = -1;
        long most = -1;
        for (int bits = 0; bits < 1 << (b - a + 1); bits++) {
            if (Integer.bitCount(bits) == n) {
                long sum = 0;
                for (int t = 0; t < tables; t++) {
                    for (int u = t + 1; u < tables; u++) {
                        long furthest = 0;
                        for (int i = 0; i <= b - a; i++) {
                            if ((bits >> i & 1) == 1) furthest = Math.max(furthest, Math.abs(said[t][i] - said[u][i]));
                        }
                        sum += furthest;
                    }
                }
                if (sum > most) {
                    most = sum;
                    answer = bits;
                }
            }
        }
        return answer;
    }

    int image() {
        kept = now.copy();
        return now.sights.size();
    }

    int restore() {
        if (kept == null) return no(-3);
        now = kept.copy();
        return now.sights.size();
    }

    int count(int what) {
        int n = 0;
        switch (what) {
            case 0:
                for (Moon m : now.moons) n += m == null ? 0 : 1;
                return n;
            case 1:
                return now.sights.size();
            case 2:
                for (Sight s : now.sights) n += s.kind == 5 ? 1 : 0;
                return n;
            case 3:
                return now.tables.size();
            case 4:
                return rows.size();
            case 5:
                return text.length();
            case 6:
                for (Sight s : now.sights) {
                    for (int d : s.days) n += d == -9 ? 0 : 1;
                }
                return n;
            default:
                return what >= 11 && what <= 16 ? refused[what - 10] : -9;
        }
    }
}
