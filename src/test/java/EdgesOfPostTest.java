/** The boundary cases of part V of the document and of promises 27 to 30 and 32 to 34, a sentence a test. */
public final class EdgesOfPostTest {
    private static final Check CHECK = new Check();

    public static void main(String[] args) {
        sightsAreSentToHolders0To3();
        sentForDays0To999();
        notSentAtFirst();
        minus1IsNotSent();
        sendInOrder();
        hasOfHolders0To3();
        hasOnDays0To999();
        hasByThen();
        hasOfForty();
        hasNothing();
        believesOfHoldersAndMoons();
        believesOnDays0To999();
        believesWithoutTables();
        believesByWhatHeHas();
        turnOfHoldersAndMoons();
        turnOnDays0To999();
        turnWithoutTables();
        turnOfNone();
        turnOf2AtMost();
        turnOfFewest();
        turnOfTheLeastAsBits();
        turnOfTheFirst8();
        turnOfTwoOfTheFirst8();
        turnOfThoseHeHasNot();
        turnToAnotherTable();
        turnByThePrice();
        turnByNumbersFromMinus3On();
        turnOfEightTables();
        imageOfNoneAndOfForty();
        restoreOfNone();
        restoreIsOfTheLatest();
        restoreMoreThanOnce();
        theImageIsNotInIt();
        textRowsAndRefusalsGoOn();
        restoredAsMuchAsThereMayBe();
        sentOnesAreSentAgain();
        countsOfAnotherWhat();
        countsOfEachRefusal();
        countsOfAllThereMayBe();
        CHECK.end();
    }

    private static LateMoons twoSights() {
        LateMoons x = Check.with("e", "o");
        x.moon(2, 0, 1000, 0, 0);
        Check.off(x, 8, 10);
        Check.off(x, 2, 40);
        return x;
    }

    /** "HOLDERS 0 .. 3"; "A SIGHT is SENT to a HOLDER for a DAY ..: the DAY that it was (-9 none). -1; -4; -6." */
    private static void sightsAreSentToHolders0To3() {
        CHECK.among("send to", EdgesOfPostTest::twoSights, (x, h) -> x.send(1, h, 5), 3, -1, 0, h -> -9);
        CHECK.among("send sight", EdgesOfPostTest::twoSights, (x, s) -> x.send(s, 0, 5), 1, -1, 0, s -> -9);
        CHECK.due("no sights", Check.with().send(0, 0, 5), -1);
        LateMoons x = twoSights();
        for (int h = 0; h <= 3; h++) {
            x.send(0, h, 10 + h);
        }
        for (int h = 0; h <= 3; h++) {
            CHECK.due("each has his own day", x.send(0, h, -1), 10 + h);
            CHECK.due("each sight has its own", x.send(1, h, -1), -9);
        }
    }

    /** "comes on a DAY (0 .. 999; told ..)", "(-1: not sent)". */
    private static void sentForDays0To999() {
        CHECK.range("send day", EdgesOfPostTest::twoSights, (x, day) -> x.send(0, 3, day), -1, 999, 0, day -> -9);
        LateMoons x = twoSights();
        CHECK.due("day 0", x.send(0, 3, 0), -9);
        CHECK.due("day 999", x.send(0, 3, 999), 0);
        CHECK.due("day 1000", x.send(0, 3, 1000), -6);
        CHECK.due("day -2", x.send(0, 3, -2), -4);
        CHECK.due("999 it was", x.send(0, 3, 0), 999);
        CHECK.due("it comes on day 0", x.has(3, 0), 1);
    }

    /** "not sent at first". */
    private static void notSentAtFirst() {
        LateMoons x = twoSights();
        Check.putAll(x, 0, 1, 0, 0, 0, 0, 0, 7);
        x.read();
        CHECK.due("sent", x.count(6), 0);
        for (int s = 0; s <= 2; s++) {
            for (int h = 0; h <= 3; h++) {
                CHECK.due("the day it was", x.send(s, h, 0), -9);
            }
        }
        CHECK.due("sent", x.count(6), 12);
        for (int h = 0; h <= 3; h++) {
            x.send(2, h, -1);
        }
        x.takeBack();
        x.sight(0, 1, 0, 9);
        for (int h = 0; h <= 3; h++) {
            CHECK.due("a new one with an old number", x.send(2, h, 1), -9);
        }
    }

    private static void minus1IsNotSent() {
        LateMoons x = twoSights();
        CHECK.due("not sent", x.send(0, 2, -1), -9);
        CHECK.due("sent", x.count(6), 0);
        x.send(0, 2, 0);
        CHECK.due("not sent now", x.send(0, 2, -1), 0);
        CHECK.due("it does not come", x.has(2, 999), 0);
        CHECK.due("not sent still", x.send(0, 2, 7), -9);
        CHECK.due("sent", x.count(6), 1);
    }

    private static void sendInOrder() {
        for (int day : new int[] {-2, 1000, Integer.MIN_VALUE, Integer.MAX_VALUE}) {
            CHECK.due("sight before day " + day, twoSights().send(2, 0, day), -1);
            CHECK.due("sight before day " + day, twoSights().send(-1, 0, day), -1);
            CHECK.due("holder before day " + day, twoSights().send(0, 4, day), -1);
            CHECK.due("holder before day " + day, twoSights().send(0, -1, day), -1);
        }
    }

    /** "HAS, as bits. -1; -4; -6." */
    private static void hasOfHolders0To3() {
        CHECK.among("has", EdgesOfPostTest::sentToAll, (x, h) -> x.has(h, 5), 3, -1, Check.LONG, h -> h % 2 == 0 ? 1 : 2);
        CHECK.due("holder before day", twoSights().has(4, -1), Check.no(-1));
        CHECK.due("holder before day", twoSights().has(-1, 1000), Check.no(-1));
    }

    /** Sight 0 to holders 0 and 2, sight 1 to 1 and 3, all for day 5. */
    private static LateMoons sentToAll() {
        LateMoons x = twoSights();
        for (int h = 0; h <= 3; h++) {
            x.send(h % 2, h, 5);
        }
        return x;
    }

    private static void hasOnDays0To999() {
        CHECK.range("has day", EdgesOfPostTest::sentToAll, (x, day) -> x.has(3, day), 0, 999, Check.LONG,
            day -> day < 5 ? 0 : 2);
    }

    /** "HAS on a DAY: SIGHTS that came by then." */
    private static void hasByThen() {
        LateMoons x = twoSights();
        x.send(0, 1, 0);
        x.send(1, 1, 999);
        CHECK.due("on day 0", x.has(1, 0), 1);
        CHECK.due("the day before the last", x.has(1, 998), 1);
        CHECK.due("on the last day", x.has(1, 999), 3);
        x.send(0, 1, 500);
        CHECK.due("the day before", x.has(1, 499), 0);
        CHECK.due("on the day", x.has(1, 500), 1);
        CHECK.due("the day after", x.has(1, 501), 1);
    }

    private static void hasOfForty() {
        LateMoons x = Check.with();
        Check.offs(x, 39, 1, 0);
        x.sight(0, 1, 5000, 0);
        for (int s = 0; s < 40; s++) {
            x.send(s, 3, 10 + s);
            CHECK.due("sight " + s + " the day before", x.has(3, 9 + s), (1L << s) - 1);
        }
        CHECK.due("all forty, a clouded one, too", x.has(3, 49), (1L << 40) - 1);
        CHECK.due("another has none", x.has(2, 999), 0);
    }

    private static void hasNothing() {
        LateMoons x = new LateMoons();
        CHECK.due("no sights", x.has(0, 0), 0);
        LateMoons y = twoSights();
        CHECK.due("not sent", y.has(0, 999), 0);
        CHECK.due("no refusals", x.count(11) + y.count(11), 0);
    }

    /** "BELIEVES. -1; -3 no TABLES; -4; -6." */
    private static void believesOfHoldersAndMoons() {
        CHECK.among("believes", EdgesOfPostTest::sentToAll, (x, h) -> x.believes(h, 5, 0), 3, -1, 0, h -> h % 2);
        for (int m : new int[] {1, 3, -1, 4, Integer.MIN_VALUE, Integer.MAX_VALUE}) {
            CHECK.due("of moon " + m, sentToAll().believes(0, 5, m), -1);
            CHECK.due("of moon " + m + " before the day", sentToAll().believes(0, -1, m), -1);
        }
        CHECK.due("holder before the day", sentToAll().believes(4, 1000, 0), -1);
    }

    private static void believesOnDays0To999() {
        CHECK.range("believes day", EdgesOfPostTest::sentToAll, (x, day) -> x.believes(1, day, 0), 0, 999, 0,
            day -> day < 5 ? 0 : 1);
        CHECK.due("the day before", sentToAll().believes(1, 4, 0), 0);
        CHECK.due("on the day", sentToAll().believes(1, 5, 0), 1);
    }

    /** "-3 no TABLES". */
    private static void believesWithoutTables() {
        LateMoons x = Check.with();
        CHECK.due("no tables", x.believes(0, 0, 0), -3);
        CHECK.due("before the day below", x.believes(0, -1, 0), -3);
        CHECK.due("before the day above", x.believes(0, 1000, 0), -3);
        CHECK.due("holder before that", x.believes(4, 0, 0), -1);
        CHECK.due("moon before that", x.believes(0, 0, 1), -1);
        CHECK.due("-3 counted", x.count(13), 3);
    }

    /** "BELIEVES: BEST for a MOON by what he HAS"; of several the least. */
    private static void believesByWhatHeHas() {
        LateMoons x = Check.with("o", "e", "p1");
        CHECK.due("by nothing the first", x.believes(0, 999, 0), 0);
        Check.off(x, 8, 10);
        x.send(0, 0, 0);
        CHECK.due("by one", x.believes(0, 0, 0), 1);
        x.moon(3, 0, 1000, 0, 0);
        CHECK.due("of a moon of which he has none", x.believes(0, 0, 3), 0);
        x.send(0, 0, -1);
        x.sight(0, 8, 5000, 8010);
        x.send(1, 0, 0);
        CHECK.due("by a clouded one", x.believes(0, 0, 0), 0);
    }

    /** "TURN; -9. -1; -3 no TABLES; -4; -6." */
    private static void turnOfHoldersAndMoons() {
        CHECK.among("turn", EdgesOfPostTest::turning, (x, h) -> x.turn(h, 5, 0), 3, -1, Check.LONG, h -> 1);
        for (int m : new int[] {1, 3, -1, 4, Integer.MIN_VALUE, Integer.MAX_VALUE}) {
            CHECK.due("of moon " + m, turning().turn(0, 5, m), Check.no(-1));
            CHECK.due("of moon " + m + " before the day", turning().turn(0, -1, m), Check.no(-1));
        }
        CHECK.due("holder before the day", turning().turn(4, 1000, 0), Check.no(-1));
    }

    /** Table 0 is believed; the only sight would turn anyone. */
    private static LateMoons turning() {
        LateMoons x = Check.with("o", "e");
        Check.off(x, 8, 10);
        return x;
    }

    private static void turnOnDays0To999() {
        CHECK.range("turn day", EdgesOfPostTest::turning, (x, day) -> x.turn(0, day, 0), 0, 999, Check.LONG, day -> 1);
        LateMoons x = turning();
        x.send(0, 0, 999);
        CHECK.due("the day before it comes", x.turn(0, 998, 0), 1);
        CHECK.due("the day it comes", x.turn(0, 999, 0), -9);
    }

    private static void turnWithoutTables() {
        LateMoons x = Check.with();
        CHECK.due("no tables", x.turn(0, 0, 0), Check.no(-3));
        CHECK.due("before the day below", x.turn(0, -1, 0), Check.no(-3));
        CHECK.due("before the day above", x.turn(0, 1000, 0), Check.no(-3));
        CHECK.due("holder before that", x.turn(4, 0, 0), Check.no(-1));
        CHECK.due("moon before that", x.turn(0, 0, 1), Check.no(-1));
        CHECK.due("-3 counted", x.count(13), 3);
    }

    /** "-9 none". */
    private static void turnOfNone() {
        LateMoons x = Check.with("o", "e");
        CHECK.due("no sights", x.turn(0, 0, 0), -9);
        x.sight(0, 8, 5000, 8010);
        CHECK.due("clouded ones", x.turn(0, 0, 0), -9);
        x.moon(1, 0, 1000, 0, 0);
        x.sight(1, 8, 0, 8010);
        CHECK.due("of another moon", x.turn(0, 0, 0), -9);
        Check.off(x, 8, 0);
        CHECK.due("one that turns nobody", x.turn(0, 0, 0), -9);
        LateMoons y = Check.with("o");
        Check.off(y, 8, 10);
        CHECK.due("one table alone", y.turn(0, 0, 0), -9);
        CHECK.due("-9 is no refusal", x.count(11) + x.count(13) + y.count(11) + y.count(13), 0);
    }

    /** He has one sight of fading 8, which o can not fit at all; the others are of fading 2, which e fits badly. */
    private static LateMoons leaning(int off, int others) {
        LateMoons x = Check.with("e", "o");
        Check.off(x, 8, off);
        x.send(0, 0, 0);
        Check.offs(x, others, 2, 40);
        return x;
    }

    /** "(2 at most ..)". */
    private static void turnOf2AtMost() {
        CHECK.due("one is enough: 10 by 9", leaning(9, 3).turn(0, 0, 0), 2);
        CHECK.due("two are: 26 by 24", leaning(24, 3).turn(0, 0, 0), 6);
        CHECK.due("two are as good: 25 by 25", leaning(25, 8).turn(0, 0, 0), -9);
        CHECK.due("one is as good: 20 by 20, two are enough", leaning(20, 2).turn(0, 0, 0), 6);
        CHECK.due("of two but one is there", leaning(24, 1).turn(0, 0, 0), -9);
        LateMoons x = leaning(24, 0);
        Check.off(x, 8, 24);
        Check.off(x, 2, 40);
        CHECK.due("one does not count twice", x.turn(0, 0, 0), -9);
    }

    /** "the fewest other SIGHTS". */
    private static void turnOfFewest() {
        LateMoons x = Check.with("e", "o");
        Check.off(x, 1, 30);
        Check.off(x, 5, -30);
        Check.off(x, 2, 40);
        CHECK.due("the third alone before the first two", x.turn(0, 0, 0), 4);
        x.takeBack();
        CHECK.due("the first two", x.turn(0, 0, 0), 3);
    }

    /** "of several the least as bits". */
    private static void turnOfTheLeastAsBits() {
        LateMoons x = Check.with("e", "o");
        Check.off(x, 8, 0);
        Check.off(x, 2, 40);
        Check.off(x, 2, 40);
        CHECK.due("1 before 2", x.turn(0, 0, 0), 2);
        LateMoons y = Check.with("e", "o");
        Check.off(y, 1, 30);
        Check.off(y, 1, 30);
        Check.off(y, 5, -30);
        Check.off(y, 5, -30);
        CHECK.due("0 and 2 before 1 and 2, 0 and 3, 1 and 3", y.turn(0, 0, 0), 5);
        LateMoons z = Check.with("e", "o");
        Check.off(z, 1, 30);
        Check.off(z, 5, -30);
        Check.off(z, 5, -30);
        z.send(1, 0, 3);
        CHECK.due("of the others one alone", z.turn(0, 3, 0), 1);
        LateMoons w = Check.with("e", "o");
        Check.off(w, 1, -10);
        Check.off(w, 8, -20);
        Check.off(w, 2, 30);
        Check.off(w, 5, 30);
        CHECK.due("1 and 2 (6) before 0 and 3 (9)", w.turn(0, 0, 0), 6);
    }

    /** "of the first 8 that are not CLOUDED and that he has not". */
    private static void turnOfTheFirst8() {
        LateMoons x = Check.with("e", "o");
        Check.offs(x, 7, 8, 0);
        Check.off(x, 2, 40);
        CHECK.due("the eighth", x.turn(0, 0, 0), 1 << 7);
        LateMoons y = Check.with("e", "o");
        Check.offs(y, 8, 8, 0);
        Check.off(y, 2, 40);
        CHECK.due("the ninth is not looked at", y.turn(0, 0, 0), -9);
        LateMoons z = Check.with("e", "o");
        z.moon(1, 0, 1000, 0, 0);
        Check.off(z, 8, 0);
        z.send(0, 0, 0);
        z.sight(0, 8, 5000, 0);
        z.sight(1, 8, 0, 0);
        Check.offs(z, 7, 8, 0);
        Check.off(z, 2, 40);
        CHECK.due("those he has, clouds and other moons are not of the eight", z.turn(0, 0, 0), 1 << 10);
        z.send(0, 0, -1);
        CHECK.due("one more before it", z.turn(0, 0, 0), -9);
        LateMoons u = Check.with("e", "o");
        Check.offs(u, 39, 8, 0);
        Check.off(u, 2, 1999);
        for (int s = 0; s < 39; s++) {
            u.send(s, 0, 0);
        }
        CHECK.due("the last of forty", u.turn(0, 0, 0), 1L << 39);
    }

    /** By 30 at 8 and one of the last two e is at least as good as o; by the last two together it is not. */
    private static void turnOfTwoOfTheFirst8() {
        LateMoons x = Check.with("e", "o");
        Check.offs(x, 6, 8, 30);
        Check.off(x, 1, 30);
        Check.off(x, 5, -10);
        CHECK.due("the seventh and the eighth", x.turn(0, 0, 0), 3 << 6);
        LateMoons y = Check.with("e", "o");
        Check.offs(y, 7, 8, 30);
        Check.off(y, 1, 30);
        Check.off(y, 5, -10);
        CHECK.due("the eighth and the ninth", y.turn(0, 0, 0), -9);
        LateMoons z = Check.with("e", "o");
        Check.off(z, 1, 30);
        Check.offs(z, 6, 8, 30);
        Check.off(z, 5, -10);
        CHECK.due("the first and the eighth", z.turn(0, 0, 0), 1 << 7 | 1);
    }

    private static void turnOfThoseHeHasNot() {
        LateMoons x = turning();
        Check.off(x, 8, 10);
        CHECK.due("the first", x.turn(0, 0, 0), 1);
        x.send(0, 1, 0);
        CHECK.due("another has it", x.turn(0, 0, 0), 1);
        x.send(0, 0, 5);
        CHECK.due("it is under way", x.turn(0, 4, 0), 1);
        CHECK.due("he has it, and is turned", x.turn(0, 5, 0), -9);
    }

    /** "would make him BELIEVE another TABLE": also one before what he believes. */
    private static void turnToAnotherTable() {
        LateMoons x = Check.with("o", "e");
        Check.off(x, 8, 10);
        x.send(0, 0, 0);
        CHECK.due("he believes the second", x.believes(0, 0, 0), 1);
        Check.off(x, 2, 40);
        CHECK.due("turned to the first", x.turn(0, 0, 0), 2);
        x.send(1, 0, 0);
        CHECK.due("he believes the first", x.believes(0, 0, 0), 0);
    }

    /** SCORE counts, with its PRICE: by one sight p0 leaves 30, by two 60; e and p1 leave nothing, but are two. */
    private static void turnByThePrice() {
        CHECK.due("29 for a term: one is enough", turnFor(29), 1);
        CHECK.due("30: as good by one, two are needed", turnFor(30), 3);
        CHECK.due("59: two are needed", turnFor(59), 3);
        CHECK.due("60: as good by two", turnFor(60), -9);
    }

    private static long turnFor(int price) {
        LateMoons x = Check.with("p0", "e+p1");
        x.set(3, price);
        Check.offs(x, 2, 8, 30);
        return x.turn(0, 0, 0);
    }

    /** Each two are fitted anew: e -3 fits the first and the last whatever was tried between them. */
    private static void turnByNumbersFromMinus3On() {
        LateMoons x = Check.with("e", "o");
        Check.off(x, 1, -30);
        Check.off(x, 8, -20);
        Check.off(x, 1, -30);
        CHECK.due("no two of them", x.turn(0, 0, 0), -9);
        LateMoons y = Check.with("e", "o");
        Check.off(y, 1, 30);
        Check.off(y, 8, 20);
        Check.off(y, 1, 30);
        CHECK.due("no two of them, the other way", y.turn(0, 0, 0), -9);
    }

    /** As many TABLES as there may be, of as many TERMS. */
    private static void turnOfEightTables() {
        String some = "o+p1+p2";
        LateMoons x = Check.with(some, some, some, some, some, some, some, "o+p1+e");
        Check.off(x, 8, 0);
        Check.off(x, 8, 10);
        CHECK.due("to the last", x.turn(0, 0, 0), 2);
        x.send(1, 0, 0);
        CHECK.due("he believes it", x.believes(0, 0, 0), 7);
        LateMoons y = Check.with(some, some, some, some, some, some, some, some);
        Check.offs(y, 8, 8, 10);
        CHECK.due("eight of the same", y.turn(0, 0, 0), -9);
    }

    /** "THE IMAGE is taken: how many SIGHTS." */
    private static void imageOfNoneAndOfForty() {
        LateMoons x = new LateMoons();
        CHECK.due("of none", x.image(), 0);
        CHECK.due("restored", x.restore(), 0);
        x.moon(0, 0, 1000, 0, 0);
        Check.offs(x, 40, 1, 3);
        CHECK.due("of forty", x.image(), 40);
        for (int i = 0; i < 40; i++) {
            x.takeBack();
        }
        CHECK.due("none is left", x.count(1), 0);
        CHECK.due("restored", x.restore(), 40);
        CHECK.due("the last", x.right(39), 1003);
        CHECK.due("no room", x.sight(0, 1, 0, 1), -6);
    }

    /** "-3 there is none." */
    private static void restoreOfNone() {
        LateMoons x = twoSights();
        CHECK.due("none", x.restore(), -3);
        CHECK.due("sights stay", x.count(1), 2);
        CHECK.due("-3 counted", x.count(13), 1);
        x.image();
        CHECK.due("there is one now", x.restore(), 2);
        CHECK.due("no more refusals", x.count(13), 1);
    }

    private static void restoreIsOfTheLatest() {
        LateMoons x = twoSights();
        CHECK.due("two", x.image(), 2);
        Check.off(x, 3, 5);
        CHECK.due("three", x.image(), 3);
        x.takeBack();
        x.takeBack();
        CHECK.due("the later one", x.restore(), 3);
        x.takeBack();
        x.takeBack();
        x.takeBack();
        CHECK.due("of none", x.image(), 0);
        Check.off(x, 3, 5);
        CHECK.due("none of it", x.restore(), 0);
    }

    private static void restoreMoreThanOnce() {
        LateMoons x = twoSights();
        x.image();
        for (int i = 0; i < 3; i++) {
            x.takeBack();
            x.set(0, 100 + i);
            x.moon(0, 9, 1009, 9, 9);
            CHECK.due("restored", x.restore(), 2);
            CHECK.due("as it was", x.fading(0, 5, true), 5000);
            CHECK.due("its light", x.set(0, 5), 0);
        }
    }

    /** "all that there is, but it": an image is not taken away by what is restored. */
    private static void theImageIsNotInIt() {
        LateMoons x = new LateMoons();
        CHECK.due("taken of an object without one", x.image(), 0);
        CHECK.due("restored", x.restore(), 0);
        CHECK.due("it is there still", x.restore(), 0);
        CHECK.due("no refusals", x.count(13), 0);
    }

    /** "but it, REFUSALS, the TEXT and the ROWS (they go on)". */
    private static void textRowsAndRefusalsGoOn() {
        LateMoons x = Check.with();
        x.far(-1);
        Check.feed(x, "p1+");
        Check.putAll(x, 0, 1, 0, 0);
        x.image();
        x.far(-1);
        x.set(5, 0);
        Check.feed(x, "e");
        Check.putAll(x, 0, 0, 0, 7);
        x.restore();
        CHECK.due("refusals of before and after", x.count(14), 2);
        CHECK.due("a refusal of after", x.count(12), 1);
        CHECK.due("bytes", x.count(5), 4);
        CHECK.due("ints", x.count(4), 8);
        CHECK.due("the text of before and after", x.table(), 0);
        CHECK.due("the rows of before and after", x.read(), 1);
        CHECK.due("as they were put", x.right(0), 7);
        x.restore();
        CHECK.due("a text that was used does not come again", x.count(5), 0);
        CHECK.due("nor rows", x.count(4), 0);
        CHECK.due("nor the table", x.count(3), 0);
        CHECK.due("nor the sight", x.count(1), 0);
    }

    private static void restoredAsMuchAsThereMayBe() {
        LateMoons x = new LateMoons();
        x.image();
        for (int m = 0; m <= 3; m++) {
            x.moon(m, 0, 1000, 0, 0);
        }
        for (int i = 0; i < 8; i++) {
            Check.table(x, "e");
        }
        Check.offs(x, 40, 1, 1);
        x.restore();
        CHECK.due("no moons", x.count(0), 0);
        CHECK.due("no sights", x.count(1), 0);
        CHECK.due("no tables", x.count(3), 0);
        CHECK.due("room for a table", Check.table(x, "l"), 0);
        CHECK.due("room for a moon", x.moon(3, 0, 1000, 0, 0), 1);
        CHECK.due("room for a sight", x.sight(3, 0, 0, 1), 0);
        CHECK.due("of a table with l", x.allMoons(0), 127);
    }

    private static void sentOnesAreSentAgain() {
        LateMoons x = sentToAll();
        x.image();
        for (int h = 0; h <= 3; h++) {
            x.send(h % 2, h, -1);
        }
        x.takeBack();
        x.restore();
        CHECK.due("sent", x.count(6), 4);
        CHECK.due("it was sent", x.takeBack(), -3);
        for (int h = 0; h <= 3; h++) {
            CHECK.due("for its day", x.send(h % 2, h, 6), 5);
        }
        LateMoons y = twoSights();
        y.image();
        y.send(1, 1, 5);
        y.restore();
        CHECK.due("it was not sent then", y.takeBack(), 1);
    }

    /** "-9 for another what." */
    private static void countsOfAnotherWhat() {
        LateMoons x = sentToAll();
        for (int what = -20; what <= 30; what++) {
            boolean told = what >= 0 && what <= 6 || what >= 11 && what <= 16;
            if (!told) {
                CHECK.due("count(" + what + ")", x.count(what), -9);
            }
        }
        CHECK.due("the least", x.count(Integer.MIN_VALUE), -9);
        CHECK.due("the greatest", x.count(Integer.MAX_VALUE), -9);
        CHECK.same("nothing is counted", Look.refusals(x), Look.refusals(new LateMoons()));
        int[] due = {2, 2, 0, 2, 0, 0, 4};
        for (int what = 0; what <= 6; what++) {
            CHECK.due("count(" + what + ")", x.count(what), due[what]);
        }
    }

    /** "11 .. 16 REFUSALS -1 .. -6": each has its own; there is no -5. */
    private static void countsOfEachRefusal() {
        LateMoons x = new LateMoons();
        int[] times = {3, 4, 5, 6, 0, 7};
        for (int i = 0; i < 7; i++) {
            if (i < 3) x.moon(4, 0, 1000, 0, 0);
            if (i < 4) x.set(5, 0);
            if (i < 5) x.takeBack();
            if (i < 6) x.far(-1);
            x.far(2000000000);
        }
        for (int i = 0; i <= 5; i++) {
            CHECK.due("refusals -" + (i + 1), x.count(11 + i), times[i]);
        }
        x.pull(0, 1, 0);
        x.fading(0, 0, true);
        CHECK.due("100 less and in long, too", x.count(11), 5);
    }

    /** 4 MOONS, 40 SIGHTS, all CLOUDED, 8 TABLES, 80 ints, 20 bytes, 160 SENT. */
    private static void countsOfAllThereMayBe() {
        LateMoons x = new LateMoons();
        for (int m = 0; m <= 3; m++) {
            x.moon(m, 0, 1000, 0, 0);
        }
        for (int i = 0; i < 8; i++) {
            Check.table(x, "e");
        }
        for (int s = 0; s < 40; s++) {
            x.sight(s % 4, 0, 5000, 0);
            for (int h = 0; h <= 3; h++) {
                x.send(s, h, 0);
            }
        }
        for (int i = 0; i < 80; i++) {
            x.put(0);
        }
        Check.feed(x, "p0+p1+p2+p3+e+o+l+ee");
        int[] due = {4, 40, 40, 8, 80, 20, 160};
        for (int what = 0; what <= 6; what++) {
            CHECK.due("count(" + what + ")", x.count(what), due[what]);
        }
    }
}
