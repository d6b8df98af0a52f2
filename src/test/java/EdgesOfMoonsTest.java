/** The boundary cases of part I of the document and of promises 1 to 6 and 25, a sentence a test. */
public final class EdgesOfMoonsTest {
    private static final Check CHECK = new Check();

    public static void main(String[] args) {
        aNewObjectHasNoMoons();
        aNewObjectIsAtFirst();
        moonsAreFrom0To3();
        numbersOfAMoon();
        numbersOfAMoonInTurn();
        aMoonThereIsToldAnew();
        pullsAre0AtFirst();
        pullsAreFromMinus9To9();
        pullsNeedTwoMoons();
        settingsAtFirst();
        settingsFromLeastToGreatest();
        settingsAreFive();
        theWaveBeginsAnewAt8();
        theWaveOfPullsBeginsAnew();
        aPullerMustBeThere();
        farBeginsAnewWithTheYear();
        farIsCut();
        farOfTheGreatestYear();
        farFrom0To1999999999();
        fadingsFrom0To999();
        fadingsOfMoonsThere();
        seenIsCut();
        lightFrom0To2000();
        farOfTheFadingItself();
        rhythmTakesThreeToEitherSide();
        rhythmIsTheFirstOfSeveral();
        rhythmOfTheGreatestPeriods();
        rhythmOfThreeMoonsThere();
        allOf512Calls();
        CHECK.end();
    }

    private static LateMoons fourMoons() {
        LateMoons x = new LateMoons();
        for (int m = 0; m <= 3; m++) {
            x.moon(m, 0, 1000, 0, 0);
        }
        return x;
    }

    /** "No MOONS." */
    private static void aNewObjectHasNoMoons() {
        LateMoons x = Check.with();
        CHECK.due("a moon was told", x.count(0), 1);
        LateMoons y = new LateMoons();
        CHECK.due("moons of another new object", y.count(0), 0);
        for (int m = 0; m <= 3; m++) {
            CHECK.due("fading of " + m, y.fading(m, 0, true), Check.no(-1));
            CHECK.due("sight of " + m, y.sight(m, 0, 0, 0), -1);
            CHECK.due("pull of " + m, y.pull(m, (m + 1) % 4, 0), -101);
            CHECK.due("best of " + m, y.best(m, 0), -1);
            CHECK.due("watch of " + m, y.watch(m, 0, 0, 1), -1);
            CHECK.due("believes of " + m, y.believes(0, 0, m), -1);
        }
        CHECK.due("rhythm", y.rhythm(0, 1, 2), -1);
        Check.putAll(y, 0, 0, 0, 0, 0, 0, 0, 0);
        CHECK.due("a book", y.read(), 0);
    }

    /** Nothing else is there either: no SIGHTS, TABLES, ROWS, TEXT, image, REFUSALS. */
    private static void aNewObjectIsAtFirst() {
        LateMoons x = new LateMoons();
        int[] whats = {0, 1, 2, 3, 4, 5, 6, 11, 12, 13, 14, 15, 16};
        for (int what : whats) {
            CHECK.due("count(" + what + ")", x.count(what), 0);
        }
        CHECK.due("no sight", x.right(0), Check.no(-1));
        CHECK.due("none to take back", x.takeBack(), -3);
        CHECK.due("no table", x.allMoons(0), -1);
        CHECK.due("nothing to read", x.read(), 0);
        CHECK.due("an empty text has its fault at its end", x.table(), -20);
        CHECK.due("no image", x.restore(), -3);
        for (int h = 0; h <= 3; h++) {
            CHECK.due("holder " + h + " has nothing", x.has(h, 999), 0);
        }
    }

    /** "MOONS 0 .. 3"; "A MOON is there: 1". */
    private static void moonsAreFrom0To3() {
        CHECK.among("moon", LateMoons::new, (x, m) -> x.moon(m, 5, 1000, 0, 0), 3, -1, 0, m -> 1);
        LateMoons x = fourMoons();
        CHECK.due("four moons", x.count(0), 4);
        CHECK.due("no fifth", x.moon(4, 0, 1000, 0, 0), -1);
        CHECK.due("four moons", x.count(0), 4);
    }

    /** "FIRST (0 .. 999999 seconds), PERIOD (1000 .. 999999), OUT (0 .. 99), LENGTH of a fading (0 .. 9999)". */
    private static void numbersOfAMoon() {
        CHECK.range("FIRST", LateMoons::new, (x, n) -> x.moon(1, n, 1000, 0, 0), 0, 999999, 0, n -> 1);
        CHECK.range("PERIOD", LateMoons::new, (x, n) -> x.moon(1, 0, n, 0, 0), 1000, 999999, 0, n -> 1);
        CHECK.range("OUT", LateMoons::new, (x, n) -> x.moon(1, 0, 1000, n, 0), 0, 99, 0, n -> 1);
        CHECK.range("LENGTH", LateMoons::new, (x, n) -> x.moon(1, 0, 1000, 0, n), 0, 9999, 0, n -> 1);
        CHECK.range("FIRST anew", EdgesOfMoonsTest::fourMoons, (x, n) -> x.moon(1, n, 1000, 0, 0), 0, 999999, 0, n -> 0);
        LateMoons x = new LateMoons();
        x.moon(2, 999999, 999999, 99, 9999);
        x.sight(2, 0, 2000, 9999);
        CHECK.due("greatest FIRST", x.fading(2, 0, false), 999999);
        CHECK.due("greatest PERIOD and OUT", x.fading(2, 2, false), 999999 + 2 * 999999 + 396);
        CHECK.due("greatest LENGTH", x.right(0), 0);
        x.moon(2, 0, 1000, 0, 0);
        CHECK.due("least FIRST", x.fading(2, 0, false), 0);
        CHECK.due("least PERIOD and OUT", x.fading(2, 2, false), 2000);
        CHECK.due("least LENGTH", x.right(0), 9999);
    }

    /** "-1; -4; -6 (of each number in turn)": each is tested on both sides before the next. */
    private static void numbersOfAMoonInTurn() {
        int[][] below = {{-1, 0}, {999, 1000}, {-1, 0}, {-1, 0}};
        int[][] above = {{1000000, 0}, {1000000, 1000}, {100, 0}, {10000, 0}};
        for (int i = 0; i < 4; i++) {
            int[] low = new int[4];
            int[] high = new int[4];
            for (int j = 0; j < 4; j++) {
                low[j] = j < i ? below[j][1] : j == i ? below[j][0] : above[j][0];
                high[j] = j < i ? above[j][1] : j == i ? above[j][0] : below[j][0];
            }
            LateMoons x = new LateMoons();
            CHECK.due("number " + i + " below", x.moon(0, low[0], low[1], low[2], low[3]), -4);
            CHECK.due("number " + i + " above", x.moon(0, high[0], high[1], high[2], high[3]), -6);
            CHECK.due("no moon before all that", x.moon(4, low[0], low[1], low[2], low[3]), -1);
            CHECK.due("no moon before all that", x.moon(-1, high[0], high[1], high[2], high[3]), -1);
            CHECK.due("no moon came", x.count(0), 0);
        }
    }

    /** "it is told anew: 0", also if it is told the same; what others and its pulls are stays. */
    private static void aMoonThereIsToldAnew() {
        LateMoons x = fourMoons();
        x.pull(1, 2, 7);
        x.pull(2, 1, -7);
        CHECK.due("the same", x.moon(1, 0, 1000, 0, 0), 0);
        CHECK.due("another", x.moon(1, 50, 3000, 2, 9), 0);
        CHECK.due("four moons", x.count(0), 4);
        CHECK.due("it fades anew", x.fading(1, 4, false), 12050);
        CHECK.due("another does not", x.fading(0, 4, false), 4000);
        CHECK.due("pulled still", x.pull(1, 2, 0), 7);
        CHECK.due("pulling still", x.pull(2, 1, 0), -7);
        CHECK.due("refused anew", x.moon(1, 60, 3000, 2, 10000), -6);
        CHECK.due("it stays", x.fading(1, 0, false), 50);
    }

    /** "PULLS by each other MOON (.. 0 at first)". */
    private static void pullsAre0AtFirst() {
        LateMoons x = fourMoons();
        for (int m = 0; m <= 3; m++) {
            for (int by = 0; by <= 3; by++) {
                int was = x.pull(m, by, m == by ? 0 : 1 + m);
                CHECK.due("pull of " + m + " by " + by, was, m == by ? -101 : 0);
            }
        }
        for (int m = 0; m <= 3; m++) {
            for (int by = 0; by <= 3; by++) {
                int was = x.pull(m, by, 0);
                CHECK.due("pull of " + m + " by " + by + " then", was, m == by ? -101 : 1 + m);
            }
        }
    }

    /** "PULLS by each other MOON (-9 .. 9"; "REFUSALS 100 less". */
    private static void pullsAreFromMinus9To9() {
        CHECK.range("pull", EdgesOfMoonsTest::fourMoons, (x, n) -> x.pull(3, 0, n), -9, 9, -100, n -> 0);
        LateMoons x = fourMoons();
        CHECK.due("greatest", x.pull(3, 0, 9), 0);
        CHECK.due("above", x.pull(3, 0, 10), -106);
        CHECK.due("it stays", x.fading(3, 2, false), 2036);
        CHECK.due("least", x.pull(3, 0, -9), 9);
        CHECK.due("below", x.pull(3, 0, -10), -104);
        CHECK.due("it stays", x.fading(3, 2, false), 1964);
        CHECK.due("what it was", x.pull(3, 0, 0), -9);
    }

    /** "PULL of a MOON by another one .. -1; -4; -6". */
    private static void pullsNeedTwoMoons() {
        CHECK.among("pull of", EdgesOfMoonsTest::fourMoons, (x, m) -> x.pull(m, m == 3 ? 2 : 3, 1), 3, -1, -100, m -> 0);
        CHECK.among("pull by", EdgesOfMoonsTest::fourMoons, (x, m) -> x.pull(m == 3 ? 2 : 3, m, 1), 3, -1, -100, m -> 0);
        for (int n : new int[] {-10, 0, 10}) {
            LateMoons x = Check.with();
            x.moon(3, 0, 1000, 0, 0);
            CHECK.due("none such with " + n, x.pull(4, 0, n), -101);
            CHECK.due("by none such with " + n, x.pull(0, -1, n), -101);
            CHECK.due("one not there with " + n, x.pull(1, 0, n), -101);
            CHECK.due("by one not there with " + n, x.pull(0, 1, n), -101);
            CHECK.due("by itself with " + n, x.pull(3, 3, n), -101);
            CHECK.due("none such by itself with " + n, x.pull(4, 4, n), -101);
            CHECK.due("both are there", x.pull(3, 0, 1), 0);
        }
    }

    /** "LIGHT (.. 0 at first), YEAR (.. 31556952 at first)", "STEP (.. 10 at first)", "PRICE (.. 50 at first)", "60 at first". */
    private static void settingsAtFirst() {
        LateMoons x = new LateMoons();
        CHECK.due("LIGHT at first", x.set(0, 1), 0);
        CHECK.due("YEAR at first", x.set(1, 1000), 31556952);
        CHECK.due("STEP at first", x.set(2, 3), 10);
        CHECK.due("PRICE at first", x.set(3, 4), 50);
        CHECK.due("SLACK at first", x.set(4, 5), 60);
        CHECK.due("LIGHT then", x.set(0, 1), 1);
        CHECK.due("YEAR then", x.set(1, 1000), 1000);
        CHECK.due("STEP then", x.set(2, 3), 3);
        CHECK.due("PRICE then", x.set(3, 4), 4);
        CHECK.due("SLACK then", x.set(4, 5), 5);
    }

    /** "LIGHT (0 .. 2000", "YEAR (1000 .. 99999999", "STEP (1 .. 60", "PRICE (0 .. 9999", "SLACK (0 .. 999)". */
    private static void settingsFromLeastToGreatest() {
        int[] first = {0, 31556952, 10, 50, 60};
        int[] least = {0, 1000, 1, 0, 0};
        int[] greatest = {2000, 99999999, 60, 9999, 999};
        for (int i = 0; i <= 4; i++) {
            int what = i;
            CHECK.range("set(" + i + ")", LateMoons::new, (x, n) -> x.set(what, n), least[i], greatest[i], 0, n -> first[what]);
            LateMoons x = new LateMoons();
            x.set(what, greatest[i]);
            x.set(what, greatest[i] + 1);
            CHECK.due("greatest of " + i, x.set(what, least[i]), greatest[i]);
            x.set(what, least[i] - 1);
            CHECK.due("least of " + i, x.set(what, least[i]), least[i]);
        }
    }

    /** "LIGHT (what 0) .. SLACK (4 ..): -2; -4; -6": another what is refused whatever the number. */
    private static void settingsAreFive() {
        CHECK.among("set what", LateMoons::new, (x, what) -> x.set(what, what == 1 ? 1000 : 1), 4, -2, 0,
            what -> new int[] {0, 31556952, 10, 50, 60}[what]);
        for (int what : new int[] {-1, 5, Integer.MIN_VALUE, Integer.MAX_VALUE}) {
            CHECK.due("set(" + what + ", below)", new LateMoons().set(what, Integer.MIN_VALUE), -2);
            CHECK.due("set(" + what + ", above)", new LateMoons().set(what, Integer.MAX_VALUE), -2);
        }
    }

    /** "THE WAVE of a number i: 0, 3, 4, 3, 0, -3, -4, -3 for i's rest by 8 (0 .. 7)". */
    private static void theWaveBeginsAnewAt8() {
        int[] wave = {0, 3, 4, 3, 0, -3, -4, -3};
        LateMoons x = new LateMoons();
        x.moon(0, 0, 1000, 99, 0);
        for (int k = 0; k <= 17; k++) {
            CHECK.due("wave of " + k, x.fading(0, k, false) - 1000 * k, 99 * wave[k % 8]);
        }
        for (int k = 991; k <= 999; k++) {
            CHECK.due("wave of " + k, x.fading(0, k, false) - 1000 * k, 99 * wave[k % 8]);
        }
    }

    /** "its PULL times THE WAVE of k times (j and 1)": the product begins anew at 8, too. */
    private static void theWaveOfPullsBeginsAnew() {
        int[][] due = {
            // waves of k, of 2 k, of 3 k, of 4 k
            {1, 3, 4, 3, 0}, {2, 4, 0, -4, 0}, {3, 3, -4, 3, 0}, {4, 0, 0, 0, 0}, {5, -3, 4, -3, 0}, {6, -4, 0, 4, 0},
            {7, -3, -4, -3, 0}, {8, 0, 0, 0, 0}, {9, 3, 4, 3, 0}, {998, -4, 0, 4, 0}, {999, -3, -4, -3, 0}};
        for (int j = 0; j <= 3; j++) {
            LateMoons x = fourMoons();
            int m = (j + 1) % 4;
            x.pull(m, j, -9);
            for (int[] row : due) {
                CHECK.due("pull of " + m + " by " + j + " at " + row[0], x.fading(m, row[0], false) - 1000 * row[0],
                    -9 * row[1 + j]);
            }
        }
    }

    /** "for each other MOON j that is there". */
    private static void aPullerMustBeThere() {
        LateMoons x = Check.with();
        x.image();
        x.moon(1, 0, 1000, 0, 0);
        x.pull(0, 1, 5);
        CHECK.due("pulled", x.fading(0, 1, false), 1020);
        x.restore();
        CHECK.due("it is not there now", x.fading(0, 1, false), 1000);
        CHECK.due("it is there again", x.moon(1, 0, 1000, 0, 0), 1);
        CHECK.due("it was not told to pull then", x.fading(0, 1, false), 1000);
    }

    /** "FAR of a second t: its rest by YEAR, ..; that, or 2000 less it, the lesser". */
    private static void farBeginsAnewWithTheYear() {
        LateMoons x = new LateMoons();
        x.set(1, 1000);
        int[][] due = {{0, 0}, {1, 2}, {499, 998}, {500, 1000}, {501, 998}, {999, 2}, {1000, 0}, {1001, 2}, {1999, 2},
            {2000, 0}, {1999999000, 0}, {1999999500, 1000}, {1999999999, 2}};
        for (int[] row : due) {
            CHECK.due("far(" + row[0] + ") of 1000", x.far(row[0]), row[1]);
        }
        LateMoons y = new LateMoons();
        CHECK.due("before the year ends", y.far(31556951), 1);
        CHECK.due("as it ends", y.far(31556952), 0);
        CHECK.due("before its middle", y.far(15778475), 999);
        CHECK.due("its middle", y.far(15778476), 1000);
    }

    /** "times 2000, by YEAR, cut". */
    private static void farIsCut() {
        LateMoons x = new LateMoons();
        x.set(1, 1001);
        int[][] due = {{1, 1}, {2, 3}, {500, 999}, {501, 1000}, {502, 998}, {1000, 2}, {1001, 0}, {1002, 1}};
        for (int[] row : due) {
            CHECK.due("far(" + row[0] + ") of 1001", x.far(row[0]), row[1]);
        }
    }

    /** The greatest YEAR: its seconds times 2000 are no int. */
    private static void farOfTheGreatestYear() {
        LateMoons x = new LateMoons();
        x.set(1, 99999999);
        int[][] due = {{25000000, 500}, {49999999, 999}, {50000000, 1000}, {75000000, 500}, {99999998, 1}, {99999999, 0},
            {1999999979, 1}, {1999999999, 0}};
        for (int[] row : due) {
            CHECK.due("far(" + row[0] + ") of 99999999", x.far(row[0]), row[1]);
        }
    }

    /** "FAR of a second (0 .. 1999999999). -4; -6". */
    private static void farFrom0To1999999999() {
        CHECK.range("far", LateMoons::new, (x, t) -> x.far(t), 0, 1999999999, 0, t -> t == 0 ? 0 : 754);
    }

    /** "FADING k (0 .. 999)"; "-1; -4; -6". */
    private static void fadingsFrom0To999() {
        CHECK.range("fading", EdgesOfMoonsTest::fourMoons, (x, k) -> x.fading(1, k, false), 0, 999, Check.LONG, k -> 1000L * k);
        CHECK.range("fading seen", EdgesOfMoonsTest::fourMoons, (x, k) -> x.fading(1, k, true), 0, 999, Check.LONG,
            k -> 1000L * k);
        LateMoons x = new LateMoons();
        x.moon(0, 999999, 999999, 0, 0);
        CHECK.due("the last of the greatest", x.fading(0, 999, false), 999999000L);
    }

    /** "-1" before all: a MOON that is not there, or none such. */
    private static void fadingsOfMoonsThere() {
        CHECK.among("fading of", EdgesOfMoonsTest::fourMoons, (x, m) -> x.fading(m, 1, false), 3, -1, Check.LONG, m -> 1000);
        for (int m : new int[] {-1, 1, 2, 3, 4, Integer.MIN_VALUE, Integer.MAX_VALUE}) {
            CHECK.due("moon " + m + ", k below", Check.with().fading(m, -1, false), Check.no(-1));
            CHECK.due("moon " + m + ", k above", Check.with().fading(m, 1000, true), Check.no(-1));
        }
    }

    /** "SEEN: that, and LIGHT times FAR of it by 1000, cut." */
    private static void seenIsCut() {
        CHECK.due("998 by 1000", seen(499, 1), 499);
        CHECK.due("1000 by 1000", seen(500, 1), 501);
        CHECK.due("998 by 1000", seen(999, 499), 999);
        CHECK.due("1000 by 1000", seen(999, 500), 1000);
        CHECK.due("1999 and some", seen(250, 3), 251);
    }

    /** First seen, of a year of 1000 seconds. */
    private static long seen(int first, int light) {
        LateMoons x = new LateMoons();
        x.moon(0, first, 1000, 0, 0);
        x.set(1, 1000);
        x.set(0, light);
        CHECK.due("as it fades", x.fading(0, 0, false), first);
        return x.fading(0, 0, true);
    }

    /** "LIGHT (0 .. 2000": none at all, and the most of it at the furthest. */
    private static void lightFrom0To2000() {
        CHECK.due("none", seen(500, 0), 500);
        CHECK.due("the most, furthest", seen(500, 2000), 2500);
        CHECK.due("the most, nearest", seen(0, 2000), 0);
        CHECK.due("the most, as the year begins anew", seen(1000, 2000), 1000);
        CHECK.due("the most, a second before", seen(999, 2000), 1003);
    }

    /** "FAR of it": of the FADING with all that moves it. */
    private static void farOfTheFadingItself() {
        LateMoons x = new LateMoons();
        x.set(0, 1000);
        x.set(1, 2000);
        x.moon(0, 0, 1000, 1, 0);
        x.moon(1, 0, 1000, 0, 0);
        CHECK.due("at 1003 of 2000", x.fading(0, 1, true), 1003 + 997);
        x.pull(0, 1, -1);
        CHECK.due("at 999 of 2000", x.fading(0, 1, true), 999 + 999);
    }

    private static int rhythm(int px, int py, int pz) {
        LateMoons x = new LateMoons();
        x.moon(3, 0, px, 0, 0);
        x.moon(0, 0, py, 0, 0);
        x.moon(2, 0, pz, 0, 0);
        return x.rhythm(3, 0, 2);
    }

    /** "a, b, c (-3 .. 3". */
    private static void rhythmTakesThreeToEitherSide() {
        CHECK.due("3, -1, 0", rhythm(3000, 1000, 999983), 623);
        CHECK.due("1, -3, 0", rhythm(1000, 3000, 999983), 403);
        CHECK.due("0, 3, -1", rhythm(999983, 3000, 1000), 362);
        CHECK.due("0, 1, -3", rhythm(999983, 1000, 3000), 340);
        CHECK.due("1, -1, 3", rhythm(2000, 1000, 6000), 426);
        CHECK.due("1, -3, -3", rhythm(1000, 3500, 21000), 400);
        CHECK.due("1, 3, -1", rhythm(3000, 4500, 1000), 462);
        CHECK.due("3, -3, -1", rhythm(1000, 1050, 7000), 602);
        CHECK.due("4 is too many: 0, 0, 1", rhythm(1000, 4000, 999983), 334);
        CHECK.due("1, -1, 1, as 4, -3, -3 is too many", rhythm(4000, 3500, 21000), 424);
    }

    /** "the first of all a, b, c (.. by a, then b, then c; not all 0, the first of them that is not 0 above 0)". */
    private static void rhythmIsTheFirstOfSeveral() {
        CHECK.due("0, 1, -1 before 1, -1, 0 and all 0", rhythm(5000, 5000, 5000), 342);
        CHECK.due("0, 1, -2 before 0, -1, 2", rhythm(1000, 2000, 4000), 341);
        CHECK.due("1, -2, 0 before 2, -4, 0", rhythm(1000, 2000, 999983), 413);
        CHECK.due("1, 0, -1", rhythm(1000, 999983, 1000), 432);
    }

    /** PERIODS up to 999999: what they make together is no int. */
    private static void rhythmOfTheGreatestPeriods() {
        CHECK.due("1, -2, 1", rhythm(999999, 999998, 999997), 414);
        CHECK.due("0, 1, -1", rhythm(1000, 999999, 999999), 342);
        CHECK.due("1, -1, 0", rhythm(999999, 999999, 1000), 423);
    }

    /** "-1 (one twice, too)". */
    private static void rhythmOfThreeMoonsThere() {
        int[] nobody = {-1, 4, Integer.MIN_VALUE, Integer.MAX_VALUE, 2};
        for (int m : nobody) {
            LateMoons x = new LateMoons();
            x.moon(0, 0, 1000, 0, 0);
            x.moon(1, 0, 1000, 0, 0);
            x.moon(3, 0, 1000, 0, 0);
            CHECK.due("x " + m, x.rhythm(m, 0, 1), -1);
            CHECK.due("y " + m, x.rhythm(0, m, 1), -1);
            CHECK.due("z " + m, x.rhythm(0, 1, m), -1);
            CHECK.due("counted", x.count(11), 3);
            CHECK.due("the others", x.rhythm(0, 1, 3), 342);
        }
        LateMoons x = fourMoons();
        for (int i = 0; i < 64; i++) {
            int a = i / 16;
            int b = i / 4 % 4;
            int c = i % 4;
            boolean twice = a == b || b == c || a == c;
            CHECK.due("rhythm(" + a + ", " + b + ", " + c + ")", x.rhythm(a, b, c), twice ? -1 : 342);
        }
    }

    /** "An object is used for at most 512 calls": the last of them is as good as the first. */
    private static void allOf512Calls() {
        LateMoons x = new LateMoons();
        for (int i = 0; i < 511; i++) {
            x.far(-1);
        }
        CHECK.due("the 512th call", x.count(14), 511);
    }
}
