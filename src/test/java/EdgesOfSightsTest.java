/** The boundary cases of part II of the document and of promises 7 to 12 and 26, a sentence a test. */
public final class EdgesOfSightsTest {
    private static final Check CHECK = new Check();
    private static final int LAST_SECOND = 1999999999;
    private static final int[] FINE_ROW = {0, 1, 0, 0, 0, 0, 0, 7};

    public static void main(String[] args) {
        toolsAreFour();
        eyesClocksAndTowns();
        toolsFromLeastToGreatest();
        toolsAre0AtFirst();
        eachHasItsOwnTool();
        kindsFrom0To7();
        eyesFrom0To5();
        clocksAndTownsFrom0To3();
        fadingsOfSights();
        secondsOfSights();
        moonsOfSights();
        sightsAre40AtMost();
        fullComesLast();
        rightOfSightsThatAre();
        rightMayBeBelow0();
        rightOfTheGreatest();
        clockedIsCutToward0();
        clockedWithManySeconds();
        onlyItsKindIsPutRight();
        rowsAre80AtMost();
        anyIntIsPut();
        noRowsAtAll();
        tenRowsAreTheMost();
        rowsFromLeastToGreatest();
        aRowNotAsTold();
        aRowOfAMoonNotThere();
        nothingFromACloudedNightOn();
        lessThan8AreLeft();
        moreThan40();
        theLatestIsTakenBack();
        noneToTakeBack();
        sentOnesStay();
        apartIsOfFour();
        apartOfTwoTowns();
        apartOfTwoEyes();
        apartNeedsAPair();
        apartWithOffsetAs0();
        leansWithLeanAs0();
        leastAndGreatestApart();
        CHECK.end();
    }

    /** Moons 0 and 2 are there. */
    private static LateMoons twoMoons() {
        LateMoons x = new LateMoons();
        x.moon(0, 0, 8000, 0, 150);
        x.moon(2, 0, 9000, 0, 40);
        return x;
    }

    private static LateMoons fullOfSights() {
        LateMoons x = twoMoons();
        for (int i = 0; i < 40; i++) {
            x.sight(0, 1, 0, i);
        }
        return x;
    }

    /** One sight of moon 0, put right. */
    private static long right(LateMoons x, int told, int second) {
        return x.right(x.sight(0, 1, told, second));
    }

    /** "LEAN of an EYE (what 0), LOSS (1), SET (2) of a CLOCK, OFFSET of a TOWN (3) .. -2; -1; -4; -6". */
    private static void toolsAreFour() {
        CHECK.among("tool what", LateMoons::new, (x, what) -> x.tool(what, 0, 1), 3, -2, 0, what -> 1);
        for (int what : new int[] {-1, 4, Integer.MIN_VALUE, Integer.MAX_VALUE}) {
            CHECK.due("what before who", new LateMoons().tool(what, 6, 1000000000), -2);
            CHECK.due("what before who", new LateMoons().tool(what, -1, Integer.MIN_VALUE), -2);
        }
    }

    /** "an EYE (0 .. 5), with a CLOCK (0 .. 3), in a TOWN (0 .. 3)". */
    private static void eyesClocksAndTowns() {
        int[] last = {5, 3, 3, 3};
        for (int i = 0; i <= 3; i++) {
            int what = i;
            CHECK.among("tool " + what + " of", LateMoons::new, (x, n) -> x.tool(what, n, 1), last[what], -1, 0, n -> 1);
            CHECK.due("who before how much", new LateMoons().tool(what, last[what] + 1, Integer.MIN_VALUE), -1);
            CHECK.due("who before how much", new LateMoons().tool(what, -1, Integer.MAX_VALUE), -1);
        }
    }

    /** "a LEAN (-99 .. 99), CLOCKS a LOSS (-99 .. 99 ..) and a SET (0 .. 999999999), TOWNS an OFFSET (-43200 .. 43200)". */
    private static void toolsFromLeastToGreatest() {
        int[] least = {-99, -99, 0, -43200};
        int[] greatest = {99, 99, 999999999, 43200};
        for (int i = 0; i <= 3; i++) {
            int what = i;
            CHECK.range("tool " + what, LateMoons::new, (x, n) -> x.tool(what, 3, n), least[i], greatest[i], 0, n -> 1);
        }
        LateMoons x = twoMoons();
        x.tool(0, 2, 99);
        x.tool(0, 2, 100);
        x.tool(3, 2, 43200);
        x.tool(3, 2, 43201);
        CHECK.due("greatest lean and offset stay", right(x, 7202, 50000), 50000 - 99 - 43200);
        x.tool(0, 2, -99);
        x.tool(0, 2, -100);
        x.tool(3, 2, -43200);
        x.tool(3, 2, -43201);
        CHECK.due("least lean and offset stay", right(x, 7202, 50000), 50000 + 99 + 43200);
        x.tool(1, 2, 99);
        x.tool(1, 2, 100);
        CHECK.due("greatest loss stays", right(x, 6020, 86400), 86400 + 99);
        x.tool(2, 2, 86400);
        x.tool(2, 2, -1);
        CHECK.due("a set stays", right(x, 6020, 86400), 86400);
        x.tool(2, 2, 0);
        x.tool(1, 2, -99);
        x.tool(1, 2, -100);
        CHECK.due("least loss stays", right(x, 6020, 86400), 86400 - 99);
    }

    /** "all 0 at first". */
    private static void toolsAre0AtFirst() {
        LateMoons x = twoMoons();
        for (int eye = 0; eye <= 5; eye++) {
            CHECK.due("lean of " + eye, right(x, 100 * eye, 500000), 500000);
        }
        for (int i = 0; i <= 3; i++) {
            CHECK.due("loss of " + i, right(x, 6000 + 10 * i, 500000), 500000);
            CHECK.due("offset of " + i, right(x, 7000 + i, 500000), 500000);
            x.tool(1, i, 1);
            CHECK.due("set of " + i, right(x, 6000 + 10 * i, 864000), 864010);
        }
    }

    private static void eachHasItsOwnTool() {
        LateMoons x = twoMoons();
        for (int eye = 0; eye <= 5; eye++) {
            x.tool(0, eye, 10 + eye);
        }
        for (int i = 0; i <= 3; i++) {
            x.tool(1, i, 20 + i);
            x.tool(2, i, 86400 * i);
            x.tool(3, i, 40 + i);
        }
        for (int eye = 0; eye <= 5; eye++) {
            CHECK.due("lean of " + eye, right(x, 100 * eye, 864000), 864000 - 10 - eye);
        }
        for (int i = 0; i <= 3; i++) {
            CHECK.due("clock " + i, right(x, 6000 + 10 * i, 864000), 864000 - 10 + (20 + i) * (10 - i));
            CHECK.due("town " + i, right(x, 7000 + i, 864000), 864000 - 10 - 40 - i);
        }
    }

    /** "told: 1000 KIND, 100 EYE, 10 CLOCK, TOWN, together"; "-1 MOON; -2 KIND; -1 (EYE, CLOCK, TOWN)". */
    private static void kindsFrom0To7() {
        CHECK.among("sight of KIND", EdgesOfSightsTest::twoMoons, (x, kind) -> x.sight(0, 1, told(kind), 9), 7, -2, 0, n -> 0);
        CHECK.due("the first that is too much", twoMoons().sight(0, 1, 8000, 9), -2);
        CHECK.due("the last that is not", twoMoons().sight(0, 1, 7533, 9), 0);
        CHECK.due("kind 7 still, of no eye", twoMoons().sight(0, 1, 7999, 9), -1);
        CHECK.due("kind 0 still, of no eye", twoMoons().sight(0, 1, 999, 9), -1);
        CHECK.due("below 0", twoMoons().sight(0, 1, -1, 9), -2);
        CHECK.due("below 0, as if of kind 0", twoMoons().sight(0, 1, -999, 9), -2);
        CHECK.due("KIND before EYE", twoMoons().sight(0, 1, 8600, 9), -2);
        CHECK.due("KIND before CLOCK", twoMoons().sight(0, 1, 8040, 9), -2);
        CHECK.due("KIND before TOWN", twoMoons().sight(0, 1, 9994, 9), -2);
        CHECK.due("KIND before k", twoMoons().sight(0, -1, 8000, 9), -2);
        CHECK.due("KIND before SECOND", twoMoons().sight(0, 1, 8000, -1), -2);
        CHECK.due("KIND before room", fullOfSights().sight(0, 1, 8000, 9), -2);
    }

    /** Kinds far out as they are, so that the thousands of others do not wrap around. */
    private static int told(int kind) {
        return kind > 1000000 || kind < -1000000 ? kind : 1000 * kind;
    }

    private static void eyesFrom0To5() {
        for (int kind = 0; kind <= 7; kind++) {
            for (int eye = 0; eye <= 9; eye++) {
                int due = eye <= 5 ? 0 : -1;
                CHECK.due("kind " + kind + ", eye " + eye, twoMoons().sight(2, 0, 1000 * kind + 100 * eye + 33, 0), due);
            }
        }
        CHECK.due("EYE before k below", twoMoons().sight(0, -1, 600, 9), -1);
        CHECK.due("EYE before SECOND above", twoMoons().sight(0, 1, 600, 2000000000), -1);
        CHECK.due("EYE before room", fullOfSights().sight(0, 1, 600, 9), -1);
    }

    private static void clocksAndTownsFrom0To3() {
        for (int i = 0; i <= 9; i++) {
            int due = i <= 3 ? 0 : -1;
            CHECK.due("clock " + i, twoMoons().sight(0, 0, 7503 + 10 * i, 0), due);
            CHECK.due("clock " + i + ", though not clocked", twoMoons().sight(0, 0, 10 * i, 0), due);
            CHECK.due("town " + i, twoMoons().sight(0, 0, 7530 + i, 0), due);
            CHECK.due("town " + i + ", though not far", twoMoons().sight(0, 0, i, 0), due);
        }
        CHECK.due("CLOCK before k above", twoMoons().sight(0, 1000, 40, 9), -1);
        CHECK.due("TOWN before SECOND below", twoMoons().sight(0, 1, 4, -1), -1);
        CHECK.due("TOWN before room", fullOfSights().sight(0, 1, 4, 9), -1);
    }

    /** "-4; -6 (k, SECOND; 40)". */
    private static void fadingsOfSights() {
        CHECK.range("k", EdgesOfSightsTest::twoMoons, (x, k) -> x.sight(2, k, 0, 9), 0, 999, 0, k -> 0);
        CHECK.due("-4 of SECOND before -6 of k", twoMoons().sight(2, 1000, 0, -1), -4);
        CHECK.due("-4 of k before -6 of SECOND", twoMoons().sight(2, -1, 0, 2000000000), -4);
        LateMoons x = Check.with("e");
        x.sight(0, 999, 0, 999000);
        x.sight(0, 0, 0, 0);
        CHECK.due("the last fading, left by e -3", x.left(0, 0, 0), 30);
        CHECK.due("the first fading", x.left(0, 1, 0), 30);
    }

    /** "told SECOND (0 .. 1999999999)". */
    private static void secondsOfSights() {
        CHECK.range("SECOND", EdgesOfSightsTest::twoMoons, (x, second) -> x.sight(2, 1, 0, second), 0, LAST_SECOND, 0, n -> 0);
        LateMoons x = twoMoons();
        CHECK.due("the least", right(x, 0, 0), 0);
        CHECK.due("the greatest", right(x, 0, LAST_SECOND), 1999999999);
    }

    private static void moonsOfSights() {
        for (int m : new int[] {1, 3, -1, 4, Integer.MIN_VALUE, Integer.MAX_VALUE}) {
            CHECK.due("moon " + m, twoMoons().sight(m, 1, 0, 9), -1);
            CHECK.due("moon " + m + " before KIND", twoMoons().sight(m, 1, 8000, 9), -1);
            CHECK.due("moon " + m + " before k", twoMoons().sight(m, -1, 0, 9), -1);
            CHECK.due("moon " + m + " before SECOND", twoMoons().sight(m, 1, 0, 2000000000), -1);
            CHECK.due("moon " + m + " before room", fullOfSights().sight(m, 1, 0, 9), -1);
        }
    }

    /** "SIGHTS have numbers from 0 on (40 at most)". */
    private static void sightsAre40AtMost() {
        LateMoons x = twoMoons();
        for (int i = 0; i < 40; i++) {
            CHECK.due("sight " + i, x.sight(i % 2 * 2, i, i % 8 * 1000, 100 + i), i);
        }
        CHECK.due("the forty-first", x.sight(0, 1, 0, 9), -6);
        CHECK.due("a clouded one has no room either", x.sight(0, 1, 5000, 9), -6);
        CHECK.due("forty", x.count(1), 40);
        CHECK.due("-6 counted", x.count(16), 2);
        CHECK.due("the first", x.right(0), 100);
        CHECK.due("the last", x.right(39), 139);
        CHECK.due("taken back", x.takeBack(), 39);
        CHECK.due("room again", x.sight(0, 1, 0, 9), 39);
        CHECK.due("and none again", x.sight(0, 1, 0, 9), -6);
        CHECK.due("the last one now", x.right(39), 9);
    }

    private static void fullComesLast() {
        CHECK.due("k below", fullOfSights().sight(0, -1, 0, 9), -4);
        CHECK.due("second below", fullOfSights().sight(0, 1, 0, -1), -4);
        CHECK.due("k above", fullOfSights().sight(0, 1000, 0, 9), -6);
        CHECK.due("full", fullOfSights().sight(0, 1, 0, 9), -6);
    }

    /** "PUT RIGHT. -1; -3 CLOUDED." */
    private static void rightOfSightsThatAre() {
        CHECK.among("right", EdgesOfSightsTest::fullOfSights, (x, s) -> x.right(s), 39, -1, Check.LONG, s -> s);
        CHECK.due("no sights", twoMoons().right(0), Check.no(-1));
        LateMoons x = twoMoons();
        x.sight(0, 1, 5000, 7);
        CHECK.due("a clouded one", x.right(0), Check.no(-3));
        CHECK.due("one that is not yet", x.right(1), Check.no(-1));
        x.sight(0, 1, 0, 8);
        CHECK.due("one that is", x.right(1), 8);
        x.takeBack();
        CHECK.due("one that is no more", x.right(1), Check.no(-1));
    }

    private static void rightMayBeBelow0() {
        LateMoons x = new LateMoons();
        x.moon(0, 0, 1000, 0, 9999);
        x.tool(0, 0, 99);
        x.tool(3, 3, 43200);
        CHECK.due("SIGHT", right(x, 0, 0), -99);
        CHECK.due("OUT", right(x, 2000, 0), -99 - 9999);
        CHECK.due("NEAR", right(x, 3000, 0), -99 - 20);
        CHECK.due("FAR", right(x, 7003, 0), -99 - 43200);
    }

    private static void rightOfTheGreatest() {
        LateMoons x = twoMoons();
        x.tool(0, 0, -99);
        x.tool(3, 3, -43200);
        CHECK.due("SIGHT", right(x, 0, LAST_SECOND), 2000000098L);
        CHECK.due("SMALL", right(x, 4000, LAST_SECOND), 2000000128L);
        CHECK.due("FAR", right(x, 7003, LAST_SECOND), 2000043298L);
    }

    /** "CLOCKED and LOSS times (SECOND less SET) by 86400 (cut toward 0)". */
    private static void clockedIsCutToward0() {
        CHECK.due("a second less than a day", clocked(1, 0, 86399), 0);
        CHECK.due("a day", clocked(1, 0, 86400), 1);
        CHECK.due("losing, a second less than a day", clocked(-1, 0, 86399), 0);
        CHECK.due("losing, a day", clocked(-1, 0, 86400), -1);
        CHECK.due("a second less than a day before", clocked(1, 86400, 1), 0);
        CHECK.due("a day before", clocked(1, 86400, 0), -1);
        CHECK.due("losing, a second less than a day before", clocked(-1, 86400, 1), 0);
        CHECK.due("losing, a day before", clocked(-1, 86400, 0), 1);
        CHECK.due("as it was set", clocked(99, 5000, 5000), 0);
        CHECK.due("two thirds of a day, twice", clocked(2, 0, 57600), 1);
        CHECK.due("half a day less a second, twice", clocked(2, 0, 43199), 0);
    }

    /** What is put to a clocked sight. */
    private static long clocked(int loss, int set, int second) {
        LateMoons x = twoMoons();
        x.tool(1, 3, loss);
        x.tool(2, 3, set);
        return right(x, 6030, second) - second;
    }

    /** LOSS times the seconds is no int. */
    private static void clockedWithManySeconds() {
        CHECK.due("the most", clocked(99, 0, LAST_SECOND), 2291666);
        CHECK.due("the least", clocked(-99, 0, LAST_SECOND), -2291666);
        CHECK.due("long before it was set", clocked(99, 999999999, 0), -1145833);
        CHECK.due("losing, long before it was set", clocked(-99, 999999999, 0), 1145833);
        CHECK.due("of both at most", clocked(99, 999999999, LAST_SECOND), 1145833);
    }

    /** "PUT RIGHT: of all but CLOUDED ones": each kind what it names, and nothing of the others. */
    private static void onlyItsKindIsPutRight() {
        LateMoons x = twoMoons();
        x.tool(0, 5, 7);
        x.tool(1, 3, 50);
        x.tool(3, 3, 1000);
        long[] due = {0, 0, -150, -20, 30, 0, 500, -1000};
        for (int kind = 0; kind <= 7; kind++) {
            long is = right(x, 1000 * kind + 533, 864000);
            CHECK.due("kind " + kind, is, kind == 5 ? Check.no(-3) : 864000 - 7 + due[kind]);
        }
    }

    /** "An int more of the ROWS: how many. -6 80." */
    private static void rowsAre80AtMost() {
        LateMoons x = twoMoons();
        for (int i = 1; i <= 80; i++) {
            CHECK.due("put " + i, x.put(0), i);
        }
        CHECK.due("the eighty-first", x.put(0), -6);
        CHECK.due("the eighty-second", x.put(0), -6);
        CHECK.due("eighty", x.count(4), 80);
        CHECK.due("-6 counted", x.count(16), 2);
        CHECK.due("ten came", x.read(), 10);
        CHECK.due("room again", x.put(0), 1);
    }

    private static void anyIntIsPut() {
        LateMoons x = new LateMoons();
        CHECK.due("the least", x.put(Integer.MIN_VALUE), 1);
        CHECK.due("the greatest", x.put(Integer.MAX_VALUE), 2);
        CHECK.due("-1", x.put(-1), 3);
        CHECK.due("no refusals", x.count(14) + x.count(16), 0);
    }

    private static void noRowsAtAll() {
        LateMoons x = twoMoons();
        CHECK.due("nothing to read", x.read(), 0);
        Check.putAll(x, FINE_ROW);
        CHECK.due("one", x.read(), 1);
        CHECK.due("\"The ROWS, which have none then\"", x.count(4), 0);
        CHECK.due("not a second time", x.read(), 0);
        CHECK.due("one sight", x.count(1), 1);
    }

    private static void tenRowsAreTheMost() {
        LateMoons x = twoMoons();
        for (int i = 0; i < 10; i++) {
            Check.putAll(x, i % 2 * 2, i, 0, i % 6, i % 4, i % 4, 2, i);
        }
        CHECK.due("all at once", x.read(), 10);
        for (int i = 0; i < 10; i++) {
            CHECK.due("row " + i, x.right(i), 200000 + i);
        }
    }

    /** "MOON, k, KIND, EYE, CLOCK, TOWN, SECOND by 100000, its rest by that". */
    private static void rowsFromLeastToGreatest() {
        LateMoons x = new LateMoons();
        x.moon(0, 0, 1000, 0, 0);
        x.moon(3, 0, 1000, 0, 0);
        x.tool(0, 5, 1);
        x.tool(3, 3, 2);
        x.tool(1, 3, 86);
        Check.putAll(x, 0, 0, 0, 0, 0, 0, 0, 0);
        Check.putAll(x, 3, 999, 7, 5, 3, 3, 19999, 99999);
        Check.putAll(x, 3, 999, 6, 5, 3, 3, 0, 86400);
        Check.putAll(x, 3, 999, 5, 5, 3, 3, 19999, 99999);
        Check.putAll(x, 0, 0, 6, 0, 3, 0, 1, 72800);
        Check.putAll(x, 0, 0, 7, 0, 0, 3, 1, 72800);
        CHECK.due("all come", x.read(), 6);
        CHECK.due("the least", x.right(0), 0);
        CHECK.due("the greatest", x.right(1), 1999999999 - 1 - 2);
        CHECK.due("of its clock", x.right(2), 86400 - 1 + 86);
        CHECK.due("clouded", x.right(3), Check.no(-3));
        CHECK.due("clouded ones", x.count(2), 1);
        CHECK.due("its clock is not its town", x.right(4), 172800 + 172);
        CHECK.due("its town is not its clock", x.right(5), 172800 - 2);
        Check.table(x, "e");
        CHECK.due("of fading 0 of moon 0", x.left(0, 0, 0), 30);
        CHECK.due("of fading 999 of moon 3", x.left(0, 2, 0), 86485 - 999000 + 30);
    }

    /** "the first that is not as told (.. a number out of range ..) is CLOUDED NIGHT". */
    private static void aRowNotAsTold() {
        int[] greatest = {3, 999, 7, 5, 3, 3, 19999, 99999};
        for (int i = 0; i < 8; i++) {
            CHECK.due("least at " + i, readWith(i, 0), 1);
            CHECK.due("greatest at " + i, readWith(i, greatest[i]), 1);
            for (int n : new int[] {-1, greatest[i] + 1, Integer.MIN_VALUE, Integer.MAX_VALUE}) {
                CHECK.due(n + " at " + i, readWith(i, n), 0);
            }
        }
    }

    /** How many sights come of one row with a number put in. */
    private static int readWith(int at, int n) {
        LateMoons x = twoMoons();
        x.moon(3, 0, 1000, 0, 0);
        int[] row = FINE_ROW.clone();
        row[at] = n;
        Check.putAll(x, row);
        int came = x.read();
        CHECK.due("sights of " + n + " at " + at, x.count(1), came);
        CHECK.due("no rows are left", x.count(4), 0);
        CHECK.due("no refusals", x.count(11) + x.count(12) + x.count(13) + x.count(14) + x.count(16), 0);
        return came;
    }

    /** "a MOON that is not there". */
    private static void aRowOfAMoonNotThere() {
        for (int m = 0; m <= 3; m++) {
            LateMoons x = twoMoons();
            Check.putAll(x, m, 1, 0, 0, 0, 0, 0, 7);
            CHECK.due("moon " + m, x.read(), m % 2 == 0 ? 1 : 0);
        }
        LateMoons y = new LateMoons();
        Check.putAll(y, FINE_ROW);
        y.moon(0, 0, 1000, 0, 0);
        CHECK.due("it is there when they are read", y.read(), 1);
    }

    /** "nothing from it on comes". */
    private static void nothingFromACloudedNightOn() {
        for (int broken = 0; broken < 10; broken++) {
            LateMoons x = twoMoons();
            for (int i = 0; i < 10; i++) {
                Check.putAll(x, i == broken ? 1 : 0, 1, 0, 0, 0, 0, 0, i);
            }
            CHECK.due("before row " + broken, x.read(), broken);
            CHECK.due("sights", x.count(1), broken);
            CHECK.due("no rows are left", x.count(4), 0);
            CHECK.due("nor read later", x.read(), 0);
        }
    }

    /** "what is left of less than 8 numbers is a CLOUDED NIGHT, too". */
    private static void lessThan8AreLeft() {
        for (int rest = 0; rest <= 7; rest++) {
            LateMoons x = twoMoons();
            Check.putAll(x, FINE_ROW);
            for (int i = 0; i < rest; i++) {
                x.put(FINE_ROW[i]);
            }
            CHECK.due("one row and " + rest, x.read(), 1);
            CHECK.due("no rows are left", x.count(4), 0);
            CHECK.due("sights", x.count(1), 1);
            for (int i = 0; i < rest; i++) {
                x.put(FINE_ROW[i]);
            }
            CHECK.due(rest + " alone", x.read(), 0);
            Check.putAll(x, FINE_ROW);
            CHECK.due("what was left is not before the next", x.read(), 1);
        }
    }

    /** "(.. more than 40) is CLOUDED NIGHT". */
    private static void moreThan40() {
        for (int had = 37; had <= 40; had++) {
            LateMoons x = twoMoons();
            for (int i = 0; i < had; i++) {
                x.sight(0, 1, 0, i);
            }
            for (int i = 0; i < 3; i++) {
                Check.putAll(x, 0, 1, 0, 0, 0, 0, 0, 100 + i);
            }
            CHECK.due("three to " + had, x.read(), 40 - had);
            CHECK.due("forty", x.count(1), 40);
            CHECK.due("the last one", x.right(39), had < 40 ? 139 - had : 39);
            CHECK.due("no refusal", x.count(16), 0);
            CHECK.due("no rows are left", x.count(4), 0);
        }
    }

    /** "The latest SIGHT is TAKEN BACK: how many are left." */
    private static void theLatestIsTakenBack() {
        LateMoons x = fullOfSights();
        for (int left = 39; left >= 0; left--) {
            CHECK.due("taken back", x.takeBack(), left);
        }
        CHECK.due("none is left", x.count(1), 0);
        CHECK.due("none more", x.takeBack(), -3);
        CHECK.due("numbers from 0 on again", x.sight(0, 1, 0, 5), 0);
        Check.putAll(x, FINE_ROW);
        x.read();
        CHECK.due("one of a book", x.takeBack(), 1);
        x.sight(0, 1, 5000, 5);
        CHECK.due("a clouded one", x.takeBack(), 1);
    }

    /** "-3 there is none". */
    private static void noneToTakeBack() {
        LateMoons x = new LateMoons();
        CHECK.due("none", x.takeBack(), -3);
        CHECK.due("still none", x.count(1), 0);
        CHECK.due("-3 counted", x.count(13), 1);
    }

    /** "-3 .. it was SENT", "(it was SENT to nobody then)". */
    private static void sentOnesStay() {
        for (int holder = 0; holder <= 3; holder++) {
            LateMoons x = twoMoons();
            x.sight(0, 1, 0, 5);
            x.sight(0, 1, 0, 6);
            x.send(1, holder, holder == 0 ? 0 : 999);
            CHECK.due("sent to " + holder, x.takeBack(), -3);
            CHECK.due("both are there", x.count(1), 2);
            CHECK.due("-3 counted", x.count(13), 1);
            x.send(0, holder, 4);
            x.send(1, holder, -1);
            CHECK.due("not sent now", x.takeBack(), 1);
            CHECK.due("the one before is", x.takeBack(), -3);
            x.send(0, (holder + 1) % 4, 4);
            x.send(0, holder, -1);
            CHECK.due("to another still", x.takeBack(), -3);
            x.send(0, (holder + 1) % 4, -1);
            CHECK.due("to nobody", x.takeBack(), 0);
        }
    }

    /** Fading 1 of moon 0, one sight by each eye; in town 0 to 3 and 0, 1. */
    private static LateMoons sixEyes() {
        LateMoons x = twoMoons();
        for (int eye = 0; eye <= 5; eye++) {
            x.sight(0, 1, 100 * eye + eye % 4, 1000 + 10 * eye);
        }
        return x;
    }

    /** "TOWNS APART (what 0 the least, 1 the greatest), LEANS (2, 3). -2; -1 ..; -3". */
    private static void apartIsOfFour() {
        CHECK.among("apart what", EdgesOfSightsTest::sixEyes, (x, what) -> x.apart(2, 3, what), 3, -2, Check.LONG, n -> -10);
        for (int what : new int[] {-1, 4, Integer.MIN_VALUE, Integer.MAX_VALUE}) {
            CHECK.due("what before one twice", sixEyes().apart(2, 2, what), Check.no(-2));
            CHECK.due("what before nobody", sixEyes().apart(-1, 9, what), Check.no(-2));
            CHECK.due("what before no pair", twoMoons().apart(0, 1, what), Check.no(-2));
        }
    }

    /** "-1 (one twice, too)" of TOWNS. */
    private static void apartOfTwoTowns() {
        for (int w = 0; w <= 1; w++) {
            int what = w;
            CHECK.among("apart of town", EdgesOfSightsTest::sixEyes, (x, t) -> x.apart(t, t == 2 ? 3 : 2, what), 3, -1,
                Check.LONG, t -> apartOf(t, t == 2 ? 3 : 2, what));
            CHECK.among("apart of another town", EdgesOfSightsTest::sixEyes, (x, t) -> x.apart(t == 2 ? 3 : 2, t, what), 3,
                -1, Check.LONG, t -> apartOf(t == 2 ? 3 : 2, t, what));
            for (int t = 0; t <= 4; t++) {
                CHECK.due("town " + t + " twice", sixEyes().apart(t, t, what), Check.no(-1));
                CHECK.due("before no pair", twoMoons().apart(t, t, what), Check.no(-1));
            }
            CHECK.due("none such before no pair", twoMoons().apart(4, 0, what), Check.no(-1));
            CHECK.due("none such before no pair", twoMoons().apart(0, -1, what), Check.no(-1));
        }
    }

    /** Towns 0 and 1 have two seconds each (1000 and 1040, 1010 and 1050), 2 and 3 one. */
    private static long apartOf(int a, int b, int what) {
        int[] least = {1000, 1010, 1020, 1030};
        int[] greatest = {1040, 1050, 1020, 1030};
        return what == 0 ? least[a] - greatest[b] : greatest[a] - least[b];
    }

    /** "-1 (one twice, too)" of EYES. */
    private static void apartOfTwoEyes() {
        for (int w = 2; w <= 3; w++) {
            int what = w;
            CHECK.among("apart of eye", EdgesOfSightsTest::sixEyes, (x, e) -> x.apart(e, e == 2 ? 3 : 2, what), 5, -1,
                Check.LONG, e -> e == 2 ? -10 : 10 * e - 20);
            CHECK.among("apart of another eye", EdgesOfSightsTest::sixEyes, (x, e) -> x.apart(e == 2 ? 3 : 2, e, what), 5,
                -1, Check.LONG, e -> e == 2 ? 10 : 20 - 10 * e);
            for (int e = 0; e <= 6; e++) {
                CHECK.due("eye " + e + " twice", sixEyes().apart(e, e, what), Check.no(-1));
            }
            CHECK.due("none such before no pair", twoMoons().apart(6, 0, what), Check.no(-1));
            CHECK.due("eye 5 is one", twoMoons().apart(5, 0, what), Check.no(-3));
        }
        CHECK.due("town 4 is none", sixEyes().apart(4, 0, 0), Check.no(-1));
        CHECK.due("eye 4 is one", sixEyes().apart(4, 0, 2), 40);
    }

    /** "by FADINGS of which both have a SIGHT that is not CLOUDED"; "-3 there is no pair". */
    private static void apartNeedsAPair() {
        LateMoons x = twoMoons();
        none("no sights", x);
        x.sight(0, 1, 0, 1000);
        none("one has none", x);
        x.sight(0, 2, 101, 2000);
        none("of another fading", x);
        x.sight(2, 1, 101, 3000);
        none("of another moon", x);
        x.sight(0, 1, 5101, 4000);
        none("a clouded one", x);
        x.sight(0, 2, 5000, 5000);
        none("a clouded one of the first", x);
        CHECK.due("-3 counted", x.count(13), 24);
        x.sight(0, 1, 101, 1007);
        CHECK.due("a pair of towns", x.apart(0, 1, 0), -7);
        CHECK.due("the same is the greatest", x.apart(0, 1, 1), -7);
        CHECK.due("a pair of eyes", x.apart(1, 0, 2), 7);
        CHECK.due("the same is the greatest", x.apart(1, 0, 3), 7);
        x.takeBack();
        CHECK.due("no pair again", x.apart(0, 1, 0), Check.no(-3));
    }

    private static void none(String what, LateMoons x) {
        for (int i = 0; i <= 3; i++) {
            CHECK.due(what, x.apart(0, 1, i), Check.no(-3));
        }
    }

    /** "(PUT RIGHT, but OFFSET as 0)": of both towns; all else is put right. */
    private static void apartWithOffsetAs0() {
        LateMoons x = twoMoons();
        x.tool(0, 1, 3);
        x.tool(0, 2, -4);
        x.tool(3, 0, 43200);
        x.tool(3, 1, -43200);
        x.sight(0, 1, 7100, 1000);
        x.sight(0, 1, 7201, 2000);
        CHECK.due("of both far", x.apart(0, 1, 0), 1000 - 3 - 2000 - 4);
        x.takeBack();
        x.sight(0, 1, 2201, 2000);
        CHECK.due("of one far, one out", x.apart(0, 1, 1), 1000 - 3 - (2000 + 4 - 150));
    }

    /** "LEANS: of two EYES likewise (LEAN as 0)": of both eyes; all else is put right. */
    private static void leansWithLeanAs0() {
        LateMoons x = twoMoons();
        x.tool(0, 4, 99);
        x.tool(0, 5, -99);
        x.tool(3, 1, 500);
        x.sight(0, 1, 7401, 3000);
        x.sight(0, 1, 7500, 2000);
        CHECK.due("in two towns", x.apart(4, 5, 2), 2500 - 2000);
        x.takeBack();
        x.sight(0, 1, 4501, 2000);
        CHECK.due("one in the same town, too small", x.apart(4, 5, 3), 2500 - 2030);
    }

    /** "the least, the greatest of all such pairs". */
    private static void leastAndGreatestApart() {
        LateMoons x = twoMoons();
        x.sight(0, 0, 0, 1000);
        x.sight(0, 0, 101, 1100);
        x.sight(2, 999, 101, 5000);
        x.sight(2, 999, 0, 5300);
        x.sight(2, 999, 0, 5010);
        CHECK.due("towns, least", x.apart(0, 1, 0), -100);
        CHECK.due("towns, greatest", x.apart(0, 1, 1), 300);
        CHECK.due("towns the other way, least", x.apart(1, 0, 0), -300);
        CHECK.due("towns the other way, greatest", x.apart(1, 0, 1), 100);
        CHECK.due("eyes, least", x.apart(0, 1, 2), -100);
        CHECK.due("eyes, greatest", x.apart(0, 1, 3), 300);
        CHECK.due("eyes the other way, least", x.apart(1, 0, 2), -300);
        CHECK.due("eyes the other way, greatest", x.apart(1, 0, 3), 100);
        LateMoons y = twoMoons();
        y.sight(0, 0, 0, 0);
        y.sight(0, 0, 101, LAST_SECOND);
        CHECK.due("as far as can be", y.apart(0, 1, 0), -1999999999L);
        CHECK.due("as far as can be", y.apart(1, 0, 3), 1999999999L);
    }
}
