/** The boundary cases of FIT, LEFT, SEASON, WORTH, BEST, ALL MOONS, and of promises 17 to 22, a sentence a test. */
public final class EdgesOfFitsTest {
    private static final Check CHECK = new Check();

    public static void main(String[] args) {
        fitIsOfThree();
        fitOfTablesAndMoonsThere();
        setsOfSightsThatAre();
        setsOfFortySights();
        refusalsOfFitInOrder();
        fitToNoSights();
        fitToOthersAndClouds();
        fitGoesFromMinus3To3();
        theFirstOfSeveralNumbers();
        theFirstTermIsTheSlowest();
        sumsOfWhatIsLeftWithoutSigns();
        priceFrom0To9999();
        leftOfSightsThatAre();
        leftOfCloudedOnes();
        leftKeepsItsSign();
        leftByAFitToItsMoon();
        seasonAbove500();
        seasonOfNoSights();
        seasonRefuses();
        worthOfTermsThatAre();
        worthOfOneAlone();
        worthOfNoSights();
        worthRefuses();
        bestOfSeveralIsTheLeast();
        bestOfEight();
        bestOfNone();
        bestRefuses();
        allMoonsWithL();
        allMoonsOfNoSights();
        slackOrLess();
        slackFrom0To999();
        bitsOfLightFrom0To6();
        eachOfItsSights();
        eachMoonThatIsThere();
        lightAmongThreeTerms();
        CHECK.end();
    }

    /** Moons 0 and 2, a table of each length, two sights of moon 0. */
    private static LateMoons twoSights() {
        LateMoons x = Check.with("e", "e+o", "l+o+e");
        x.moon(2, 0, 1000, 0, 0);
        Check.off(x, 1, 10);
        Check.off(x, 2, 20);
        return x;
    }

    /** "FIT: NUMBERS (what 0, so told), SCORE (1), the sum alone (2). -1; -2; ..". */
    private static void fitIsOfThree() {
        CHECK.among("fit what", EdgesOfFitsTest::twoSights, (x, what) -> x.fit(0, 0, 1, what), 2, -2, Check.LONG,
            what -> new int[] {4, 50, 0}[what]);
    }

    private static void fitOfTablesAndMoonsThere() {
        CHECK.among("fit of table", EdgesOfFitsTest::twoSights, (x, t) -> x.fit(t, 0, 0, 1), 2, -1, Check.LONG,
            t -> 50 * (t + 1));
        CHECK.due("no tables", Check.with().fit(0, 0, 0, 0), Check.no(-1));
        for (int m : new int[] {1, 3, -1, 4, Integer.MIN_VALUE, Integer.MAX_VALUE}) {
            CHECK.due("fit of moon " + m, twoSights().fit(0, m, 0, 0), Check.no(-1));
        }
        CHECK.due("a moon that is there", twoSights().fit(0, 2, 0, 0), 0);
    }

    /** "-4 a SET below 0; -6 one with SIGHTS that there are not". */
    private static void setsOfSightsThatAre() {
        LateMoons x = twoSights();
        CHECK.due("none", x.fit(0, 0, 0, 2), 0);
        CHECK.due("all", x.fit(0, 0, 3, 2), 10);
        CHECK.due("one more", x.fit(0, 0, 4, 2), Check.no(-6));
        CHECK.due("all and one more", x.fit(0, 0, 7, 2), Check.no(-6));
        CHECK.due("the greatest", x.fit(0, 0, Long.MAX_VALUE, 2), Check.no(-6));
        CHECK.due("one that no int has", x.fit(0, 0, 1L << 32, 2), Check.no(-6));
        CHECK.due("the last", x.fit(0, 0, 1L << 62, 2), Check.no(-6));
        CHECK.due("-1", x.fit(0, 0, -1, 2), Check.no(-4));
        CHECK.due("the least", x.fit(0, 0, Long.MIN_VALUE, 2), Check.no(-4));
        CHECK.due("-6 counted", x.count(16), 5);
        CHECK.due("-4 counted", x.count(14), 2);
        x.takeBack();
        CHECK.due("one that is no more", x.fit(0, 0, 2, 2), Check.no(-6));
        CHECK.due("no sights at all", Check.with("e").fit(0, 0, 1, 2), Check.no(-6));
    }

    /** As many SIGHTS as there may be: bits 0 .. 39. */
    private static void setsOfFortySights() {
        LateMoons x = Check.with("e");
        Check.offs(x, 39, 1, 10);
        Check.off(x, 1, 1010);
        long all = (1L << 40) - 1;
        CHECK.due("all forty", x.fit(0, 0, all, 0), 4);
        CHECK.due("what is left of them", x.fit(0, 0, all, 2), 1000);
        CHECK.due("the last alone", x.fit(0, 0, 1L << 39, 2), 980);
        CHECK.due("all but the last", x.fit(0, 0, all >> 1, 2), 0);
        CHECK.due("the forty-first", x.fit(0, 0, 1L << 40, 2), Check.no(-6));
        CHECK.due("all and the forty-first", x.fit(0, 0, 2 * all + 1, 2), Check.no(-6));
    }

    private static void refusalsOfFitInOrder() {
        CHECK.due("table, what, set", twoSights().fit(3, 0, -1, 3), Check.no(-1));
        CHECK.due("moon, what, set", twoSights().fit(0, 1, 4, -1), Check.no(-1));
        CHECK.due("what, set below", twoSights().fit(0, 0, -1, 3), Check.no(-2));
        CHECK.due("what, set above", twoSights().fit(0, 0, 4, -1), Check.no(-2));
    }

    /** Nothing there yet: all sums are 0, so the first numbers are the fit. */
    private static void fitToNoSights() {
        LateMoons x = twoSights();
        for (int t = 0; t <= 2; t++) {
            CHECK.due("numbers of " + t, x.fit(t, 0, 0, 0), 0);
            CHECK.due("score of " + t, x.fit(t, 0, 0, 1), 50 * (t + 1));
            CHECK.due("sum of " + t, x.fit(t, 0, 0, 2), 0);
        }
    }

    /** "FIT to a MOON's SIGHTS (not CLOUDED) of a SET". */
    private static void fitToOthersAndClouds() {
        LateMoons x = twoSights();
        x.sight(0, 1, 5000, 0);
        CHECK.due("of another moon", x.fit(1, 2, 3, 0), 0);
        CHECK.due("a clouded one", x.fit(1, 0, 4, 0), 0);
        CHECK.due("a clouded one beside another", x.fit(0, 0, 5, 0), 4);
        CHECK.due("the sum of another moon", x.fit(1, 2, 7, 2), 0);
    }

    /** "NUMBERS (.. -3 .. 3)": what is further off is not reached. */
    private static void fitGoesFromMinus3To3() {
        for (int off = -50; off <= 50; off += 10) {
            LateMoons x = Check.with("e");
            Check.off(x, 5, off);
            int number = Math.max(-3, Math.min(3, off / 10));
            CHECK.due("number of " + off, x.fit(0, 0, 1, 0), number + 3);
            CHECK.due("left of " + off, x.left(0, 0, 1), off - 10 * number);
        }
        LateMoons x = Check.with("e+o+p1");
        Check.off(x, 1, 240);
        Check.off(x, 1, 241);
        CHECK.due("the most of three", x.fit(0, 0, 1, 0), 342);
        CHECK.due("nothing left", x.fit(0, 0, 1, 2), 0);
        CHECK.due("one more is left", x.fit(0, 0, 2, 2), 1);
        Check.off(x, 2, -10000 + 8000);
        CHECK.due("the least that three can say of 2", x.fit(0, 0, 4, 2), 2000 - 30 - 120);
    }

    /** "of several the first (.. each from -3 on ..)". */
    private static void theFirstOfSeveralNumbers() {
        LateMoons x = Check.with("e", "o");
        Check.off(x, 1, 5);
        CHECK.due("0 and 1 as good", x.fit(0, 0, 1, 0), 3);
        Check.off(x, 1, -5);
        CHECK.due("-1 and 0 as good", x.fit(0, 0, 2, 0), 2);
        CHECK.due("of both 0 alone is best", x.fit(0, 0, 3, 0), 3);
        Check.off(x, 8, 0);
        CHECK.due("all of o as good", x.fit(1, 0, 4, 0), 0);
        Check.off(x, 1, -35);
        CHECK.due("-3 though -4 would be as good", x.fit(0, 0, 8, 0), 0);
    }

    /** "TERMS in order of the TEXT, each from -3 on, the first one slowest". */
    private static void theFirstTermIsTheSlowest() {
        LateMoons x = Check.with("e+o", "o+e", "e+p0+o", "p0+o+e", "o+e+p0");
        Check.off(x, 1, 0);
        // e -3 with o 1, e 0 with o 0, e 3 with o -1
        CHECK.due("e slowest", x.fit(0, 0, 1, 0), 7 * 4);
        CHECK.due("o slowest", x.fit(1, 0, 1, 0), 2 + 7 * 6);
        CHECK.due("e slowest, p0 as it begins", x.fit(2, 0, 1, 0), 49 * 4);
        CHECK.due("p0 slowest, then o", x.fit(3, 0, 1, 0), 7 * 2 + 49 * 6);
        CHECK.due("o slowest, then e", x.fit(4, 0, 1, 0), 2 + 7 * 6);
    }

    /** "the sum of LEFT (without signs)". */
    private static void sumsOfWhatIsLeftWithoutSigns() {
        LateMoons x = Check.with("e");
        Check.off(x, 1, 100);
        Check.off(x, 1, -100);
        CHECK.due("they do not cancel", x.fit(0, 0, 3, 2), 200);
        x.sight(0, 0, 0, 1999999999);
        x.sight(0, 0, 0, 1999999999);
        CHECK.due("more than an int holds", x.fit(0, 0, 12, 2), 2 * (1999999999L - 30));
        CHECK.due("and its score", x.fit(0, 0, 12, 1), 2 * (1999999999L - 30) + 50);
    }

    /** "PRICE (0 .. 9999; 50 at first) times its TERMS". */
    private static void priceFrom0To9999() {
        LateMoons x = twoSights();
        for (int t = 0; t <= 2; t++) {
            x.set(3, 50);
            long sum = x.fit(t, 0, 3, 2);
            CHECK.due("fifty at first", x.fit(t, 0, 3, 1), sum + 50 * (t + 1));
            x.set(3, 0);
            CHECK.due("nothing", x.fit(t, 0, 3, 1), sum);
            x.set(3, 9999);
            CHECK.due("the most", x.fit(t, 0, 3, 1), sum + 9999L * (t + 1));
            x.set(3, 10000);
            x.set(3, -1);
            CHECK.due("the most still", x.fit(t, 0, 3, 1), sum + 9999L * (t + 1));
        }
    }

    /** "LEFT of a SIGHT by a TABLE's FIT to a SET (to its MOON). -1; ..". */
    private static void leftOfSightsThatAre() {
        CHECK.among("left of table", EdgesOfFitsTest::twoSights, (x, t) -> x.left(t, 0, 1), 2, -1, Check.LONG, t -> 0);
        CHECK.among("left of sight", EdgesOfFitsTest::twoSights, (x, s) -> x.left(0, s, 0), 1, -1, Check.LONG,
            s -> 10 * s + 40);
        CHECK.due("no sights", Check.with("e").left(0, 0, 0), Check.no(-1));
        CHECK.due("table before the set", twoSights().left(3, 0, -1), Check.no(-1));
        CHECK.due("sight before the set", twoSights().left(0, 2, 4), Check.no(-1));
        CHECK.due("set below", twoSights().left(0, 0, -1), Check.no(-4));
        CHECK.due("set far below", twoSights().left(0, 0, Long.MIN_VALUE), Check.no(-4));
        CHECK.due("set above", twoSights().left(0, 0, 4), Check.no(-6));
        CHECK.due("set far above", twoSights().left(0, 0, Long.MAX_VALUE), Check.no(-6));
        CHECK.due("all", twoSights().left(0, 0, 3), 0);
    }

    /** "-3 CLOUDED; -4; -6". */
    private static void leftOfCloudedOnes() {
        LateMoons x = Check.with("e");
        x.sight(0, 1, 5000, 0);
        CHECK.due("clouded", x.left(0, 0, 0), Check.no(-3));
        CHECK.due("before the set below", x.left(0, 0, -1), Check.no(-3));
        CHECK.due("before the set above", x.left(0, 0, 2), Check.no(-3));
        CHECK.due("no table before clouded", x.left(1, 0, 0), Check.no(-1));
        Check.off(x, 1, 10);
        CHECK.due("a clouded one may be in the set", x.left(0, 1, 1), 40);
        CHECK.due("-3 counted", x.count(13), 3);
    }

    /** "LEFT of a SIGHT: PUT RIGHT less what is said." */
    private static void leftKeepsItsSign() {
        LateMoons x = Check.with("e");
        Check.off(x, 1, 100);
        Check.off(x, 1, -100);
        CHECK.due("above", x.left(0, 0, 1), 70);
        CHECK.due("below", x.left(0, 1, 2), -70);
        CHECK.due("below by the other's fit", x.left(0, 1, 1), -130);
        x.sight(0, 999, 0, 0);
        x.tool(0, 0, 99);
        CHECK.due("far below", x.left(0, 2, 4), -99 - 999000 + 30);
    }

    private static void leftByAFitToItsMoon() {
        LateMoons x = twoSights();
        x.sight(2, 1, 0, 1030);
        CHECK.due("no sights of its moon in the set", x.left(0, 2, 3), 60);
        CHECK.due("one of its moon", x.left(0, 2, 7), 0);
        CHECK.due("another moon's does not matter", x.left(0, 0, 5), 0);
    }

    /** "SIGHTS with FAR of their g above 500 less that of the others". */
    private static void seasonAbove500() {
        CHECK.due("499", season(499), -10);
        CHECK.due("500 is not above", season(500), -10);
        CHECK.due("501 is", season(501), 10);
        CHECK.due("the furthest", season(1000), 10);
        CHECK.due("499 as it comes nearer", season(1501), -10);
        CHECK.due("500 as it comes nearer", season(1500), -10);
        CHECK.due("501 as it comes nearer", season(1499), 10);
        CHECK.due("as the year begins anew", season(2000), -10);
        LateMoons x = Check.with("e");
        x.set(1, 2000);
        x.guess(0, 500, 1000);
        x.sight(0, 0, 0, 1700);
        CHECK.due("FAR of the guess, not of the sight", x.season(0, 0, 1), -(1700 - 530));
    }

    /** One sight is 40 more than is guessed, so 10 are left of it. */
    private static long season(int guessed) {
        LateMoons x = Check.with("e");
        x.set(1, 2000);
        x.guess(0, guessed, 1000);
        x.sight(0, 0, 0, guessed + 40);
        return x.season(0, 0, 1);
    }

    private static void seasonOfNoSights() {
        LateMoons x = twoSights();
        x.sight(0, 1, 5000, 500);
        CHECK.due("of none", x.season(0, 0, 0), 0);
        CHECK.due("of a clouded one", x.season(0, 0, 4), 0);
        CHECK.due("of another moon's", x.season(0, 2, 7), 0);
    }

    /** "SEASON. -1; -4; -6." */
    private static void seasonRefuses() {
        CHECK.among("season of table", EdgesOfFitsTest::twoSights, (x, t) -> x.season(t, 0, 0), 2, -1, Check.LONG, t -> 0);
        for (int m : new int[] {1, 3, -1, 4, Integer.MIN_VALUE, Integer.MAX_VALUE}) {
            CHECK.due("season of moon " + m, twoSights().season(0, m, -1), Check.no(-1));
        }
        CHECK.due("table before the set", twoSights().season(3, 0, 4), Check.no(-1));
        CHECK.due("set below", twoSights().season(0, 0, -1), Check.no(-4));
        CHECK.due("set above", twoSights().season(0, 0, 4), Check.no(-6));
        CHECK.due("all", twoSights().season(0, 0, 3), -10);
    }

    /** "WORTH of a TERM (i-th) of a TABLE". */
    private static void worthOfTermsThatAre() {
        for (int t = 0; t <= 2; t++) {
            int table = t;
            CHECK.among("worth of term of " + t, EdgesOfFitsTest::twoSights, (x, i) -> x.worth(table, i, 0, 0), table, -1,
                Check.LONG, i -> -50);
        }
        LateMoons x = Check.with("e+o+p1");
        Check.off(x, 8, 30);
        Check.offs(x, 2, 2, 150);
        Check.offs(x, 3, 1, 330);
        // e 3, o 3, p1 3: 0 + 2 times 0 + 3 times 90
        CHECK.due("all of it", x.fit(0, 0, 63, 2), 270);
        CHECK.due("the first", x.worth(0, 0, 0, 63), 30 + 2 * 30 + 3 * 120 - 50 - 270);
        CHECK.due("the second", x.worth(0, 1, 0, 63), 2 * 120 + 3 * 180 - 50 - 270);
        CHECK.due("the third", x.worth(0, 2, 0, 63), 3 * 210 - 50 - 270);
    }

    /** "(of one alone: of what is said without any)". */
    private static void worthOfOneAlone() {
        LateMoons x = Check.with("e", "o");
        Check.off(x, 2, 80);
        CHECK.due("of e", x.worth(0, 0, 0, 1), 80 - 50 - 50);
        CHECK.due("of o", x.worth(1, 0, 0, 1), 80 - 50);
        x.set(3, 0);
        CHECK.due("of o for nothing", x.worth(1, 0, 0, 1), 80);
        x.set(3, 9999);
        CHECK.due("of o for the most", x.worth(1, 0, 0, 1), 80 - 9999);
    }

    private static void worthOfNoSights() {
        LateMoons x = twoSights();
        CHECK.due("one term", x.worth(0, 0, 0, 0), -50);
        CHECK.due("of two", x.worth(1, 1, 0, 0), -50);
        CHECK.due("another moon", x.worth(2, 2, 2, 3), -50);
    }

    /** "WORTH. -1; -4; -6." */
    private static void worthRefuses() {
        CHECK.among("worth of table", EdgesOfFitsTest::twoSights, (x, t) -> x.worth(t, 0, 0, 0), 2, -1, Check.LONG, t -> -50);
        for (int m : new int[] {1, 3, -1, 4, Integer.MIN_VALUE, Integer.MAX_VALUE}) {
            CHECK.due("worth of moon " + m, twoSights().worth(0, 0, m, -1), Check.no(-1));
        }
        CHECK.due("table before the set", twoSights().worth(3, 0, 0, -1), Check.no(-1));
        CHECK.due("term before the set below", twoSights().worth(0, 1, 0, -1), Check.no(-1));
        CHECK.due("term before the set above", twoSights().worth(0, -1, 0, 4), Check.no(-1));
        CHECK.due("set below", twoSights().worth(0, 0, 0, -1), Check.no(-4));
        CHECK.due("set above", twoSights().worth(0, 0, 0, 4), Check.no(-6));
        CHECK.due("all", twoSights().worth(0, 0, 0, 3), 30 - 60);
    }

    /** "the least SCORE; of several the least number". */
    private static void bestOfSeveralIsTheLeast() {
        LateMoons x = Check.with("o", "e", "p0+e", "e");
        CHECK.due("no sights: all of one term as good", x.best(0, 0), 0);
        Check.off(x, 8, 10);
        x.set(3, 9);
        CHECK.due("1 and 3 as good, 2 dearer", x.best(0, 1), 1);
        x.set(3, 0);
        CHECK.due("1, 2 and 3 as good", x.best(0, 1), 1);
        x.set(3, 11);
        CHECK.due("1 and 3 still", x.best(0, 1), 1);
        LateMoons y = Check.with("p0+e", "p0");
        Check.off(y, 8, 10);
        y.set(3, 9);
        CHECK.due("dearer, but nearer", y.best(0, 1), 0);
        y.set(3, 10);
        CHECK.due("as good", y.best(0, 1), 0);
        y.set(3, 11);
        CHECK.due("too dear", y.best(0, 1), 1);
    }

    private static void bestOfEight() {
        LateMoons x = Check.with("o", "p1", "p2", "p3", "p0", "l", "o+p1", "e");
        Check.off(x, 8, 10);
        x.set(3, 0);
        CHECK.due("the last of eight", x.best(0, 1), 7);
        LateMoons y = Check.with("e");
        CHECK.due("one alone", y.best(0, 0), 0);
    }

    /** "-3 no TABLES". */
    private static void bestOfNone() {
        LateMoons x = Check.with();
        CHECK.due("no tables", x.best(0, 0), -3);
        CHECK.due("before the set below", x.best(0, -1), -3);
        CHECK.due("before the set above", x.best(0, 1), -3);
        CHECK.due("no moon before that", x.best(1, 0), -1);
        CHECK.due("-3 counted", x.count(13), 3);
        Check.table(x, "x");
        CHECK.due("a fault is no table", x.best(0, 0), -3);
        Check.table(x, "e");
        CHECK.due("a table", x.best(0, 0), 0);
    }

    /** "BEST. -1; ..; -4; -6." */
    private static void bestRefuses() {
        for (int m : new int[] {1, 3, -1, 4, Integer.MIN_VALUE, Integer.MAX_VALUE}) {
            CHECK.due("best of moon " + m, twoSights().best(m, -1), -1);
        }
        CHECK.due("set below", twoSights().best(0, -1), -4);
        CHECK.due("set far below", twoSights().best(0, Long.MIN_VALUE), -4);
        CHECK.due("set above", twoSights().best(0, 4), -6);
        CHECK.due("set far above", twoSights().best(0, Long.MAX_VALUE), -6);
        CHECK.due("all", twoSights().best(0, 3), 0);
    }

    /** "ALL MOONS. -1 (a TABLE without "l", too)." */
    private static void allMoonsWithL() {
        String[] texts = {"e", "l", "o+e", "o+l", "l+p0+p1", "p0+l+p1", "p0+p1+l", "p0+p1+p2"};
        for (int i = 0; i < 8; i++) {
            LateMoons x = Check.with(texts);
            boolean with = texts[i].indexOf('l') >= 0;
            CHECK.due("of " + texts[i], x.allMoons(i), with ? 127 : -1);
            CHECK.due("-1 counted", x.count(11), with ? 0 : 1);
        }
        for (int t : new int[] {-1, 8, Integer.MIN_VALUE, Integer.MAX_VALUE}) {
            CHECK.due("of table " + t, Check.with(texts).allMoons(t), -1);
        }
        CHECK.due("of the next table", Check.with("l").allMoons(1), -1);
        CHECK.due("of no table", Check.with().allMoons(0), -1);
    }

    private static void allMoonsOfNoSights() {
        LateMoons x = new LateMoons();
        Check.table(x, "l");
        CHECK.due("no moons", x.allMoons(0), 127);
        x.moon(0, 0, 1000, 0, 0);
        CHECK.due("no sights", x.allMoons(0), 127);
        x.sight(0, 0, 5000, 999999);
        CHECK.due("clouded ones alone", x.allMoons(0), 127);
        x.sight(0, 0, 0, 999999);
        CHECK.due("one that nothing explains", x.allMoons(0), 0);
    }

    /** Moon 0, by whose guess "l" 1 is 100. */
    private static LateMoons far(int off) {
        LateMoons x = Check.with("l");
        x.set(1, 10000);
        x.guess(0, 5000, 1000);
        x.sight(0, 0, 0, 5000 + off);
        return x;
    }

    /** "LEFT (without sign) of SLACK (0 .. 999) or less"; "SLACK (4; 60 at first)". */
    private static void slackOrLess() {
        CHECK.due("60 above", far(60).allMoons(0), 8 + 16);
        CHECK.due("60 above the last", far(360).allMoons(0), 64);
        CHECK.due("61 above the last", far(361).allMoons(0), 0);
        CHECK.due("60 below the first", far(-360).allMoons(0), 1);
        CHECK.due("61 below the first", far(-361).allMoons(0), 0);
        CHECK.due("39 above, 61 below", far(39).allMoons(0), 8);
        CHECK.due("40 above, 60 below", far(40).allMoons(0), 8 + 16);
    }

    private static void slackFrom0To999() {
        LateMoons x = far(100);
        x.set(4, 0);
        CHECK.due("none, and none is needed", x.allMoons(0), 16);
        LateMoons y = far(101);
        y.set(4, 0);
        CHECK.due("none, and one is needed", y.allMoons(0), 0);
        y.set(4, 1);
        CHECK.due("one", y.allMoons(0), 16);
        LateMoons z = far(1299);
        z.set(4, 999);
        CHECK.due("the most", z.allMoons(0), 64);
        z.set(4, 998);
        CHECK.due("one less", z.allMoons(0), 0);
        LateMoons w = far(699);
        w.set(4, 999);
        CHECK.due("all seven", w.allMoons(0), 127);
        w.set(4, 998);
        CHECK.due("all but the first", w.allMoons(0), 126);
    }

    /** "bits (bit 0 for -3)". */
    private static void bitsOfLightFrom0To6() {
        for (int n = -3; n <= 3; n++) {
            LateMoons x = far(100 * n);
            x.set(4, 0);
            CHECK.due("of " + n, x.allMoons(0), 1 << (n + 3));
        }
        CHECK.due("a bit more than the last", far(400).allMoons(0), 0);
        CHECK.due("a bit less than the first", far(-400).allMoons(0), 0);
    }

    /** "by which each of its SIGHTS (not CLOUDED) has LEFT ..": all sights, with the same other NUMBERS. */
    private static void eachOfItsSights() {
        LateMoons x = Check.with("l+e");
        x.set(1, 10000);
        x.set(4, 0);
        x.guess(0, 5000, 1000);
        x.sight(0, 0, 0, 5100);
        CHECK.due("l 1, e 0", x.allMoons(0), 16);
        x.sight(0, 0, 0, 5110);
        CHECK.due("not by e 0 and 1", x.allMoons(0), 0);
        x.takeBack();
        x.sight(0, 5, 0, 10000);
        CHECK.due("l 1, e 0 of both", x.allMoons(0), 16);
        x.sight(0, 0, 5000, 1);
        CHECK.due("a clouded one does not matter", x.allMoons(0), 16);
        for (int i = 0; i < 37; i++) {
            x.sight(0, 0, 0, 5100);
        }
        CHECK.due("forty", x.allMoons(0), 16);
        x.takeBack();
        x.sight(0, 0, 0, 5101);
        CHECK.due("the last of forty matters", x.allMoons(0), 0);
    }

    private static void lightAmongThreeTerms() {
        LateMoons x = Check.with("l+o+e", "o+l+e", "o+e+l");
        x.set(1, 10000);
        x.set(4, 0);
        x.guess(0, 5000, 1000);
        x.sight(0, 0, 0, 5070);
        for (int t = 0; t <= 2; t++) {
            CHECK.due("l 1, e -3", x.allMoons(t), 16);
        }
        x.takeBack();
        x.sight(0, 0, 0, 5330);
        for (int t = 0; t <= 2; t++) {
            CHECK.due("l 3, e 3", x.allMoons(t), 64);
        }
    }

    /** "each MOON that is there has other NUMBERS". */
    private static void eachMoonThatIsThere() {
        LateMoons x = Check.with("l+e");
        x.set(1, 10000);
        x.set(4, 0);
        for (int m = 0; m <= 3; m++) {
            x.guess(m, 5000, 1000);
            x.moon(m, 0, 1000, 0, 0);
            x.sight(m, 0, 0, 5100 + 10 * m);
            CHECK.due("l 1, e " + m + " of moon " + m, x.allMoons(0), 16);
        }
        x.sight(3, 0, 0, 5200);
        CHECK.due("the last moon has none", x.allMoons(0), 0);
        x.takeBack();
        x.sight(0, 0, 0, 5200);
        CHECK.due("the first moon has none", x.allMoons(0), 0);
    }
}
