/** The boundary cases of FORETOLD, PARTS, WATCH, and of promises 23, 24 and 31, a sentence a test. */
public final class EdgesOfForetoldTest {
    private static final Check CHECK = new Check();

    public static void main(String[] args) {
        foretoldOfTablesAndMoonsThere();
        foretoldOfFadings0To999();
        foretoldBySets();
        foretoldInOrder();
        foretoldByNoSights();
        errMayBeBelow0();
        errByTheLight();
        partsOfTablesAndMoonsThere();
        partsFrom0To999();
        partsBelowA();
        partsInOrder();
        partsOfOneFading();
        partsOfSeveralIsTheLeast();
        partsBeginAnewWithTheWave();
        partsByAllSights();
        watchOfMoonsThere();
        watchFrom1To4();
        watchFrom0To999();
        watchOf12AtMost();
        watchBelowAOrFewer();
        watchInOrder();
        watchBit0IsForA();
        watchByAllSights();
        watchOfSeveralIsTheLeast();
        watchOfAllPairs();
        watchOfOneSecond();
        watchOfFewTables();
        CHECK.end();
    }

    /** Moons 0 and 2; e fits 1 by the only sight, o as well by 0 or 1. */
    private static LateMoons twoTables() {
        LateMoons x = Check.with("e", "o");
        x.moon(2, 0, 1000, 0, 0);
        Check.off(x, 1, 10);
        return x;
    }

    /** "FORETOLD (err false), ERR. -1; ..". */
    private static void foretoldOfTablesAndMoonsThere() {
        CHECK.among("foretold of table", EdgesOfForetoldTest::twoTables, (x, t) -> x.foretold(t, 0, 8, 1, false), 1, -1,
            Check.LONG, t -> t == 0 ? 8010 : 8000);
        CHECK.due("no tables", Check.with().foretold(0, 0, 0, 0, false), Check.no(-1));
        for (int m : new int[] {1, 3, -1, 4, Integer.MIN_VALUE, Integer.MAX_VALUE}) {
            CHECK.due("foretold of moon " + m, twoTables().foretold(0, m, 0, 0, false), Check.no(-1));
            CHECK.due("err of moon " + m, twoTables().foretold(0, m, 0, 0, true), Check.no(-1));
        }
    }

    /** "-4, -6 (k)". */
    private static void foretoldOfFadings0To999() {
        CHECK.range("foretold k", EdgesOfForetoldTest::twoTables, (x, k) -> x.foretold(0, 0, k, 1, false), 0, 999,
            Check.LONG, k -> 1000L * k + 10);
        CHECK.range("err k", EdgesOfForetoldTest::twoTables, (x, k) -> x.foretold(0, 0, k, 1, true), 0, 999, Check.LONG,
            k -> -10);
    }

    /** "-4, -6 (the SET)". */
    private static void foretoldBySets() {
        for (boolean err : new boolean[] {false, true}) {
            CHECK.due("-1", twoTables().foretold(0, 0, 0, -1, err), Check.no(-4));
            CHECK.due("the least", twoTables().foretold(0, 0, 0, Long.MIN_VALUE, err), Check.no(-4));
            CHECK.due("one more", twoTables().foretold(0, 0, 0, 2, err), Check.no(-6));
            CHECK.due("all and one more", twoTables().foretold(0, 0, 0, 3, err), Check.no(-6));
            CHECK.due("the greatest", twoTables().foretold(0, 0, 0, Long.MAX_VALUE, err), Check.no(-6));
        }
        LateMoons x = Check.with("e");
        Check.offs(x, 40, 1, 20);
        CHECK.due("all forty", x.foretold(0, 0, 0, Check.all(x), false), 20);
        CHECK.due("the forty-first", x.foretold(0, 0, 0, 1L << 40, false), Check.no(-6));
    }

    private static void foretoldInOrder() {
        CHECK.due("table before k and set", twoTables().foretold(2, 0, -1, -1, true), Check.no(-1));
        CHECK.due("moon before k and set", twoTables().foretold(0, 1, 1000, 2, true), Check.no(-1));
        CHECK.due("k below before set above", twoTables().foretold(0, 0, -1, 2, true), Check.no(-4));
        CHECK.due("k above before set below", twoTables().foretold(0, 0, 1000, -1, true), Check.no(-6));
    }

    private static void foretoldByNoSights() {
        LateMoons x = twoTables();
        CHECK.due("e -3", x.foretold(0, 0, 1, 0, false), 970);
        CHECK.due("o -3", x.foretold(1, 0, 1, 0, false), 910);
        CHECK.due("sights of another moon", x.foretold(0, 2, 1, 1, false), 970);
        x.sight(0, 1, 5000, 0);
        CHECK.due("a clouded one", x.foretold(0, 0, 1, 2, false), 970);
    }

    /** "ERR: SEEN (as it truly is) less that." */
    private static void errMayBeBelow0() {
        LateMoons x = Check.with("e");
        CHECK.due("above", x.foretold(0, 0, 1, 0, true), 30);
        x.guess(0, 999999, 999999);
        CHECK.due("far below", x.foretold(0, 0, 999, 0, true), 999000 - 999998970L);
        x.moon(0, 999999, 999999, 0, 0);
        x.guess(0, 0, 1000);
        CHECK.due("far above", x.foretold(0, 0, 999, 0, true), 999999000L - 998970);
    }

    private static void errByTheLight() {
        LateMoons x = Check.with("e");
        x.set(1, 2000);
        x.set(0, 2000);
        CHECK.due("seen at the furthest", x.foretold(0, 0, 1, 0, true), 3000 - 970);
        CHECK.due("seen as the year begins anew", x.foretold(0, 0, 2, 0, true), 2000 - 1970);
        CHECK.due("what is said has no light", x.foretold(0, 0, 1, 0, false), 970);
    }

    /** "PARTS by FITS to all SIGHTS. -1; -4; -6; -3 b below a." */
    private static void partsOfTablesAndMoonsThere() {
        CHECK.among("parts of", EdgesOfForetoldTest::twoTables, (x, t) -> x.parts(t, 0, 0, 3, 3), 1, -1, 0, t -> 3);
        CHECK.among("parts and", EdgesOfForetoldTest::twoTables, (x, t) -> x.parts(0, t, 0, 3, 3), 1, -1, 0, t -> 3);
        for (int m : new int[] {1, 3, -1, 4, Integer.MIN_VALUE, Integer.MAX_VALUE}) {
            CHECK.due("parts of moon " + m, twoTables().parts(0, 1, m, 3, 3), -1);
        }
        CHECK.due("no tables", Check.with().parts(0, 0, 0, 3, 3), -1);
    }

    /** "of told ones from a to b, 0 .. 999". */
    private static void partsFrom0To999() {
        CHECK.range("parts a", EdgesOfForetoldTest::twoTables, (x, a) -> x.parts(0, 0, 0, a, 999), 0, 999, 0, a -> a);
        CHECK.range("parts b", EdgesOfForetoldTest::twoTables, (x, b) -> x.parts(0, 0, 0, 0, b), 0, 999, 0, b -> 0);
        CHECK.due("all of them", twoTables().parts(0, 1, 0, 0, 999), 0);
    }

    private static void partsBelowA() {
        CHECK.due("b below a", twoTables().parts(0, 1, 0, 1, 0), -3);
        CHECK.due("b far below a", twoTables().parts(0, 1, 0, 999, 0), -3);
        CHECK.due("b just below a", twoTables().parts(0, 1, 0, 999, 998), -3);
        CHECK.due("b is a", twoTables().parts(0, 1, 0, 999, 999), 999);
    }

    private static void partsInOrder() {
        CHECK.due("table before a", twoTables().parts(2, 0, 0, -1, 1000), -1);
        CHECK.due("the other table before b", twoTables().parts(0, 2, 0, 1000, -1), -1);
        CHECK.due("moon before all", twoTables().parts(0, 1, 1, -1, -1), -1);
        CHECK.due("-4 of a before -6 of b", twoTables().parts(0, 1, 0, -1, 1000), -4);
        CHECK.due("-4 of b before -6 of a", twoTables().parts(0, 1, 0, 1000, -1), -4);
        CHECK.due("-4 of b before -3", twoTables().parts(0, 1, 0, 0, -1), -4);
        CHECK.due("-6 of a before -3", twoTables().parts(0, 1, 0, 1000, 999), -6);
        CHECK.due("wild numbers", twoTables().parts(0, 1, 0, Integer.MAX_VALUE, Integer.MIN_VALUE), -4);
    }

    private static void partsOfOneFading() {
        for (int k : new int[] {0, 1, 7, 8, 999}) {
            CHECK.due("one alone", twoTables().parts(0, 1, 0, k, k), k);
            CHECK.due("a table and itself", twoTables().parts(1, 1, 0, k, k), k);
        }
    }

    /** "of several the least". By no sights e says -30, o -30 waves: apart by 30, 60, 90, 60, 30, 120, 150, 120. */
    private static void partsOfSeveralIsTheLeast() {
        LateMoons x = Check.with("e", "o");
        CHECK.due("a table and itself", x.parts(0, 0, 0, 3, 999), 3);
        CHECK.due("2 is further than 1 and 3", x.parts(0, 1, 0, 0, 4), 2);
        CHECK.due("the same the other way round", x.parts(1, 0, 0, 0, 4), 2);
        CHECK.due("3 is further than 4", x.parts(0, 1, 0, 3, 4), 3);
        CHECK.due("7 as good as 13", x.parts(0, 1, 0, 7, 13), 7);
        CHECK.due("6 and 14", x.parts(0, 1, 0, 6, 14), 6);
        CHECK.due("6, 14 and so on", x.parts(0, 1, 0, 0, 999), 6);
    }

    private static void partsBeginAnewWithTheWave() {
        LateMoons x = Check.with("e", "o");
        CHECK.due("up to 13", x.parts(0, 1, 0, 8, 13), 13);
        CHECK.due("up to 14", x.parts(0, 1, 0, 8, 14), 14);
        CHECK.due("the last", x.parts(0, 1, 0, 992, 999), 998);
        CHECK.due("the last alone", x.parts(0, 1, 0, 999, 999), 999);
    }

    private static void partsByAllSights() {
        LateMoons x = Check.with("e", "o");
        Check.off(x, 8, 30);
        CHECK.due("e 3, o -3: furthest at 2", x.parts(0, 1, 0, 0, 7), 2);
        Check.offs(x, 38, 8, -30);
        CHECK.due("e -3, o -3: furthest at 6", x.parts(0, 1, 0, 0, 7), 6);
        Check.off(x, 2, 40);
        CHECK.due("forty: e -3, o 1: furthest at 2", x.parts(0, 1, 0, 0, 7), 2);
        x.moon(1, 0, 1000, 0, 0);
        CHECK.due("another moon has none", x.parts(0, 1, 1, 0, 7), 6);
    }

    /** "WATCH for n FADINGS by FITS to all SIGHTS. -1; -4; -6 (n, a, b; more than 12); -3 b below a, fewer than n." */
    private static void watchOfMoonsThere() {
        for (int m : new int[] {1, 3, -1, 4, Integer.MIN_VALUE, Integer.MAX_VALUE}) {
            CHECK.due("watch of moon " + m, twoTables().watch(m, 0, 3, 1), -1);
        }
        CHECK.due("a moon that is there", twoTables().watch(2, 0, 7, 1), 1 << 6);
    }

    /** "so many FADINGS (1 .. 4)". */
    private static void watchFrom1To4() {
        CHECK.range("watch n", EdgesOfForetoldTest::twoTables, (x, n) -> x.watch(0, 5, 8, n), 1, 4, 0, n -> n == 1 ? 1 : 15);
        LateMoons x = twoTables();
        for (int n = 1; n <= 4; n++) {
            CHECK.due("bits of " + n, Integer.bitCount(x.watch(0, 3, 14, n)), n);
        }
    }

    private static void watchFrom0To999() {
        CHECK.range("watch a", EdgesOfForetoldTest::twoTables, (x, a) -> x.watch(0, a, Math.max(0, Math.min(a, 999)), 1), 0, 999, 0,
            a -> 1);
        CHECK.range("watch b", EdgesOfForetoldTest::twoTables, (x, b) -> x.watch(0, Math.max(0, Math.min(b, 999)), b, 1), 0, 999, 0,
            b -> 1);
    }

    /** "(12 at most)"; "-6 (.. more than 12)". */
    private static void watchOf12AtMost() {
        LateMoons x = Check.with("e", "o");
        CHECK.due("twelve", x.watch(0, 0, 11, 1), 1 << 6);
        CHECK.due("thirteen", x.watch(0, 0, 12, 1), -6);
        CHECK.due("twelve, the last", x.watch(0, 988, 999, 1), 1 << 2);
        CHECK.due("thirteen, the last", x.watch(0, 987, 999, 1), -6);
        CHECK.due("all", x.watch(0, 0, 999, 4), -6);
        CHECK.due("-6 counted", x.count(16), 3);
        LateMoons y = Check.with("e", "l");
        y.set(1, 100000);
        // by no sights -30 and -6 k
        CHECK.due("the last of twelve", y.watch(0, 8, 19, 1), 1 << 11);
        CHECK.due("three beside it", y.watch(0, 8, 19, 4), 7 | 1 << 11);
    }

    /** "-3 b below a, fewer than n". */
    private static void watchBelowAOrFewer() {
        CHECK.due("b below a", twoTables().watch(0, 1, 0, 1), -3);
        CHECK.due("b far below a", twoTables().watch(0, 999, 0, 4), -3);
        for (int n = 1; n <= 4; n++) {
            CHECK.due("as many as " + n, twoTables().watch(0, 100, 99 + n, n), (1 << n) - 1);
            CHECK.due("fewer than " + n, twoTables().watch(0, 100, 98 + n, n), -3);
        }
    }

    private static void watchInOrder() {
        CHECK.due("moon before all", twoTables().watch(1, -1, 1000, 0), -1);
        CHECK.due("n below before a above", twoTables().watch(0, 1000, 999, 0), -4);
        CHECK.due("a below before n above", twoTables().watch(0, -1, 0, 5), -4);
        CHECK.due("b below before a above", twoTables().watch(0, 1000, -1, 1), -4);
        CHECK.due("b below before -3", twoTables().watch(0, 0, -1, 1), -4);
        CHECK.due("n above before -3", twoTables().watch(0, 1, 0, 5), -6);
        CHECK.due("a above before -3", twoTables().watch(0, 1000, 999, 1), -6);
        CHECK.due("more than 12 before nothing else", twoTables().watch(0, 0, 12, 4), -6);
        CHECK.due("wild numbers", twoTables().watch(0, Integer.MAX_VALUE, Integer.MIN_VALUE, 1), -4);
        CHECK.due("wild numbers", twoTables().watch(0, 0, Integer.MAX_VALUE, 1), -6);
    }

    /** "bits (bit 0 for a)". By no sights e and o are apart by 30, 60, 90, 60, 30, 120, 150, 120. */
    private static void watchBit0IsForA() {
        LateMoons x = Check.with("e", "o");
        for (int a = 0; a <= 6; a++) {
            CHECK.due("6 from " + a, x.watch(0, a, 7, 1), 1 << (6 - a));
        }
        CHECK.due("14 from 7", x.watch(0, 7, 14, 1), 1 << 7);
    }

    /** "by FITS to all SIGHTS". */
    private static void watchByAllSights() {
        LateMoons x = Check.with("e", "o");
        Check.off(x, 2, 40);
        Check.offs(x, 38, 8, -10);
        CHECK.due("e -1, o 1: furthest at 2", x.watch(0, 0, 11, 1), 1 << 2);
        Check.offs(x, 1, 8, 1000);
        CHECK.due("forty", x.watch(0, 0, 11, 1), 1 << 2);
        x.set(2, 60);
        CHECK.due("e 0, o 0, as steps are wide: nowhere apart", x.watch(0, 0, 11, 1), 1);
    }

    /** "of several the least". */
    private static void watchOfSeveralIsTheLeast() {
        LateMoons x = Check.with("e", "o");
        CHECK.due("5 as good as 7", x.watch(0, 7, 13, 1), 1);
        CHECK.due("6 alone counts, 0 is the least beside it", x.watch(0, 0, 7, 2), 1 | 1 << 6);
        CHECK.due("two beside it", x.watch(0, 0, 7, 3), 3 | 1 << 6);
        CHECK.due("three beside it", x.watch(0, 0, 7, 4), 7 | 1 << 6);
        CHECK.due("6 before 14", x.watch(0, 5, 16, 1), 1 << 1);
        CHECK.due("6 with 5 before 6 with 14", x.watch(0, 5, 16, 2), 3);
    }

    /** "the sum over all pairs of TABLES of how far apart what they say is at its furthest of these". */
    private static void watchOfAllPairs() {
        LateMoons x = Check.with("e", "o", "p1");
        // by no sights -30, -30 waves of k, -30 waves of 2 k; e and o: 30 60 90 60 30 120 150 120,
        // e and p1: 30 90 30 150 30 90 30 150, o and p1: 0 30 120 210 0 210 120 30
        CHECK.due("3: 60 150 210, as good as 5: 120 90 210", x.watch(0, 0, 7, 1), 1 << 3);
        CHECK.due("3 and 6: 150 150 210", x.watch(0, 0, 7, 2), 1 << 3 | 1 << 6);
        CHECK.due("one beside them", x.watch(0, 0, 7, 3), 1 | 1 << 3 | 1 << 6);
        CHECK.due("without 3: 5, 6, 7 give 150 150 210", x.watch(0, 4, 7, 3), 2 | 4 | 8);
        LateMoons y = Check.with("e", "o", "e", "o", "e", "o", "e", "p1");
        CHECK.due("28 pairs: e and o twelve times, p1 with 4 and 3", y.watch(0, 0, 7, 1), 1 << 5);
        CHECK.due("eight tables, twelve nights", y.watch(0, 0, 11, 1), 1 << 5);
        CHECK.due("the last twelve nights: 989 and 997", y.watch(0, 988, 999, 1), 1 << 1);
    }

    /** "how far apart what they say is": a second is further than none. */
    private static void watchOfOneSecond() {
        LateMoons x = Check.with("p0", "l");
        x.set(1, 2000);
        x.set(2, 1);
        x.guess(0, 99, 2001);
        x.sight(0, 901, 0, 99 + 901 * 2001 + 10);
        CHECK.due("l 1 adds nothing by 99", x.foretold(1, 0, 0, 1, false), 99);
        CHECK.due("and a second by 100", x.foretold(1, 0, 1, 1, false), 2101);
        CHECK.due("none at 0, a second at 1", x.watch(0, 0, 1, 1), 2);
    }

    private static void watchOfFewTables() {
        LateMoons x = Check.with();
        for (int n = 1; n <= 4; n++) {
            CHECK.due("no tables", x.watch(0, 0, 11, n), (1 << n) - 1);
        }
        Check.table(x, "o");
        for (int n = 1; n <= 4; n++) {
            CHECK.due("one table", x.watch(0, 0, 11, n), (1 << n) - 1);
        }
        Check.table(x, "o");
        CHECK.due("two of the same", x.watch(0, 0, 11, 2), 3);
    }
}
