/** Promises 7 to 12 and 26: tool, sight, right, put, read, takeBack, apart. */
public final class SightsTest {
    private static final Check CHECK = new Check();

    public static void main(String[] args) {
        tools();
        sightsAreTold();
        sightRefuses();
        kindsArePutRight();
        clocksAreCutTowardNought();
        rowsArePut();
        bookIsRead();
        cloudedNights();
        bookBeyondForty();
        takenBack();
        townsApart();
        eyesLean();
        apartRefuses();
        CHECK.end();
    }

    private static LateMoons withMoons() {
        LateMoons x = new LateMoons();
        x.moon(0, 0, 8000, 0, 150);
        x.moon(2, 0, 9000, 0, 40);
        return x;
    }

    private static void tools() {
        LateMoons x = new LateMoons();
        int[] last = {5, 3, 3, 3};
        int[] least = {-99, -99, 0, -43200};
        int[] greatest = {99, 99, 999999999, 43200};
        for (int what = 0; what <= 3; what++) {
            String name = "tool(" + what + ") ";
            CHECK.due(name + "least", x.tool(what, 0, least[what]), 1);
            CHECK.due(name + "greatest", x.tool(what, last[what], greatest[what]), 1);
            CHECK.due(name + "nobody before", x.tool(what, -1, least[what] - 1), -1);
            CHECK.due(name + "nobody after", x.tool(what, last[what] + 1, greatest[what] + 1), -1);
            CHECK.due(name + "below", x.tool(what, 0, least[what] - 1), -4);
            CHECK.due(name + "above", x.tool(what, 0, greatest[what] + 1), -6);
        }
        CHECK.due("tool(-1)", x.tool(-1, 9, 0), -2);
        CHECK.due("tool(4)", x.tool(4, -1, 0), -2);
        CHECK.due("-1 counted", x.count(11), 8);
        CHECK.due("-2 counted", x.count(12), 2);
    }

    private static void sightsAreTold() {
        LateMoons x = withMoons();
        CHECK.due("first", x.sight(0, 0, 0, 0), 0);
        CHECK.due("second", x.sight(2, 999, 7533, 1999999999), 1);
        CHECK.due("right of it", x.right(1), 1999999999);
        CHECK.due("clouded", x.sight(2, 999, 5533, 1999999999), 2);
        CHECK.due("count", x.count(1), 3);
        CHECK.due("clouded ones", x.count(2), 1);
        for (int i = 3; i < 40; i++) {
            CHECK.due("sight " + i, x.sight(0, i, 0, i), i);
        }
        CHECK.due("below, and full", x.sight(0, -1, 0, 0), -4);
        CHECK.due("full", x.sight(0, 1, 0, 0), -6);
        CHECK.due("still forty", x.count(1), 40);
        CHECK.due("right of the last", x.right(39), 39);
        CHECK.due("no sight 40", x.right(40), Check.no(-1));
    }

    private static void sightRefuses() {
        LateMoons x = withMoons();
        CHECK.due("moon not there", x.sight(1, -1, 8000, -1), -1);
        CHECK.due("no such moon", x.sight(4, -1, -1, -1), -1);
        CHECK.due("no such moon", x.sight(-1, 0, 0, 0), -1);
        CHECK.due("kind 8", x.sight(0, -1, 8999, -1), -2);
        CHECK.due("told below 0", x.sight(0, -1, -1, -1), -2);
        CHECK.due("told far below 0", x.sight(0, -1, Integer.MIN_VALUE, -1), -2);
        CHECK.due("told far above", x.sight(0, -1, Integer.MAX_VALUE, -1), -2);
        CHECK.due("eye 6", x.sight(0, -1, 600, -1), -1);
        CHECK.due("clock 4", x.sight(0, -1, 7543, 2000000000), -1);
        CHECK.due("town 4", x.sight(0, 1000, 7534, -1), -1);
        CHECK.due("k below", x.sight(0, -1, 0, 2000000000), -4);
        CHECK.due("second below", x.sight(0, 1000, 0, -1), -4);
        CHECK.due("k above", x.sight(0, 1000, 0, 0), -6);
        CHECK.due("second above", x.sight(0, 0, 0, 2000000000), -6);
        CHECK.due("none came", x.count(1), 0);
        CHECK.due("-1 counted", x.count(11), 6);
        CHECK.due("-2 counted", x.count(12), 4);
        CHECK.due("-4 counted", x.count(14), 2);
        CHECK.due("-6 counted", x.count(16), 2);
    }

    private static void kindsArePutRight() {
        LateMoons x = withMoons();
        x.tool(0, 4, -9);
        x.tool(1, 1, 99);
        x.tool(2, 1, 1);
        x.tool(3, 2, -500);
        for (int kind = 0; kind <= 7; kind++) {
            x.sight(2, 1, 1000 * kind + 412, 86401);
        }
        long base = 86401 + 9;
        CHECK.due("SIGHT", x.right(0), base);
        CHECK.due("INTO", x.right(1), base);
        CHECK.due("OUT", x.right(2), base - 40);
        CHECK.due("NEAR", x.right(3), base - 20);
        CHECK.due("SMALL", x.right(4), base + 30);
        CHECK.due("CLOUDED", x.right(5), Check.no(-3));
        CHECK.due("CLOCKED", x.right(6), base + 99);
        CHECK.due("FAR", x.right(7), base + 500);
        CHECK.due("none", x.right(8), Check.no(-1));
        CHECK.due("none", x.right(-1), Check.no(-1));
        CHECK.due("-1 counted", x.count(11), 2);
        CHECK.due("-3 counted", x.count(13), 1);
        x.moon(2, 0, 9000, 0, 41);
        CHECK.due("OUT by the length as it is now", x.right(2), base - 41);
        x.tool(0, 4, 0);
        CHECK.due("by the lean as it is now", x.right(0), 86401);
    }

    private static void clocksAreCutTowardNought() {
        LateMoons x = withMoons();
        x.tool(1, 0, 99);
        x.tool(2, 0, 86399);
        x.tool(1, 3, -1);
        x.sight(0, 0, 6000, 0);
        x.sight(0, 0, 6030, 86399);
        x.sight(0, 0, 6030, 86400);
        x.sight(0, 0, 6000, 1999999999);
        CHECK.due("before it was set", x.right(0), -98);
        CHECK.due("less than a day", x.right(1), 86399);
        CHECK.due("a day", x.right(2), 86399);
        CHECK.due("long after", x.right(3), 1999999999L + 99L * (1999999999L - 86399) / 86400);
    }

    private static void rowsArePut() {
        LateMoons x = new LateMoons();
        for (int i = 1; i <= 80; i++) {
            CHECK.due("put " + i, x.put(-i), i);
        }
        CHECK.due("put 81", x.put(0), -6);
        CHECK.due("still 80", x.count(4), 80);
        CHECK.due("-6 counted", x.count(16), 1);
        CHECK.due("nothing comes of them", x.read(), 0);
        CHECK.due("rows have none then", x.count(4), 0);
    }

    private static void bookIsRead() {
        LateMoons x = withMoons();
        x.tool(0, 5, 3);
        Check.putAll(x, 0, 999, 7, 5, 3, 3, 19999, 99999);
        Check.putAll(x, 2, 0, 2, 0, 0, 0, 1, 50);
        Check.putAll(x, 2, 0, 5, 0, 0, 0, 0, 0);
        CHECK.due("ints", x.count(4), 24);
        CHECK.due("three came", x.read(), 3);
        CHECK.due("rows have none", x.count(4), 0);
        CHECK.due("sights", x.count(1), 3);
        CHECK.due("clouded ones", x.count(2), 1);
        CHECK.due("the greatest", x.right(0), 1999999996);
        CHECK.due("out", x.right(1), 100050 - 40);
        CHECK.due("sent to nobody", x.count(6), 0);
        CHECK.due("nothing more", x.read(), 0);
        x.tool(1, 2, 10);
        Check.putAll(x, 0, 3, 6, 1, 2, 3, 1, 72800);
        CHECK.due("one more", x.read(), 1);
        CHECK.due("by its clock", x.right(3), 172820);
        x.sight(0, 3, 0, 172800);
        CHECK.due("of its fading, in its town", x.apart(3, 0, 0), 20);
        CHECK.due("by its eye", x.apart(1, 0, 2), 20);
        CHECK.due("no refusals", x.count(11) + x.count(14) + x.count(16), 0);
    }

    private static void cloudedNights() {
        int[] fine = {0, 1, 0, 0, 0, 0, 0, 7};
        int[] above = {4, 1000, 8, 6, 4, 4, 20000, 100000};
        for (int i = 0; i < 8; i++) {
            for (int broken : new int[] {-1, above[i], Integer.MIN_VALUE, Integer.MAX_VALUE}) {
                LateMoons x = withMoons();
                Check.putAll(x, fine);
                int[] row = fine.clone();
                row[i] = broken;
                Check.putAll(x, row);
                Check.putAll(x, fine);
                CHECK.due("row with " + broken + " at " + i, x.read(), 1);
                CHECK.due("sights then", x.count(1), 1);
                CHECK.due("rows then", x.count(4), 0);
                CHECK.due("no refusals", x.count(11) + x.count(12) + x.count(14) + x.count(16), 0);
            }
        }
        LateMoons x = withMoons();
        Check.putAll(x, 1, 1, 0, 0, 0, 0, 0, 7);
        CHECK.due("a moon that is not there", x.read(), 0);
        Check.putAll(x, fine);
        Check.putAll(x, 0, 1, 0, 0, 0, 0, 0);
        CHECK.due("seven numbers are left", x.read(), 1);
        CHECK.due("they are gone", x.count(4), 0);
    }

    private static void bookBeyondForty() {
        LateMoons x = withMoons();
        for (int i = 0; i < 38; i++) {
            x.sight(0, 1, 0, i);
        }
        for (int i = 0; i < 3; i++) {
            Check.putAll(x, 0, 1, 0, 0, 0, 0, 0, 100 + i);
        }
        CHECK.due("two have room", x.read(), 2);
        CHECK.due("forty", x.count(1), 40);
        CHECK.due("the last", x.right(39), 101);
    }

    private static void takenBack() {
        LateMoons x = withMoons();
        CHECK.due("none", x.takeBack(), -3);
        x.sight(0, 1, 0, 10);
        x.sight(0, 1, 5000, 20);
        x.send(0, 3, 0);
        CHECK.due("the latest", x.takeBack(), 1);
        CHECK.due("no clouded one now", x.count(2), 0);
        CHECK.due("it was sent", x.takeBack(), -3);
        CHECK.due("it is there", x.right(0), 10);
        x.send(0, 3, -1);
        CHECK.due("it is not sent now", x.takeBack(), 0);
        CHECK.due("none again", x.takeBack(), -3);
        CHECK.due("-3 counted", x.count(13), 3);
        CHECK.due("its number comes again", x.sight(0, 1, 0, 30), 0);
        CHECK.due("what was sent is not", x.send(0, 3, -1), -9);
    }

    private static void townsApart() {
        LateMoons x = withMoons();
        x.tool(0, 1, 5);
        x.tool(3, 1, 3600);
        x.sight(0, 1, 0, 1000);
        x.sight(0, 1, 7101, 1400);
        CHECK.due("one pair, least", x.apart(0, 1, 0), 1000 - 1395);
        CHECK.due("one pair, greatest", x.apart(0, 1, 1), 1000 - 1395);
        CHECK.due("the other way", x.apart(1, 0, 0), 395);
        x.sight(0, 2, 1, 9000);
        x.sight(2, 1, 1, 9001);
        x.sight(0, 1, 5001, 9002);
        CHECK.due("other fadings, moons, clouds tell nothing", x.apart(0, 1, 0), -395);
        x.sight(0, 1, 2000, 5000);
        x.sight(0, 2, 0, 9100);
        CHECK.due("least of three", x.apart(0, 1, 0), -395);
        CHECK.due("greatest of three", x.apart(0, 1, 1), 5000 - 150 - 1395);
        CHECK.due("least, the other way", x.apart(1, 0, 0), 1395 - 4850);
        CHECK.due("greatest, the other way", x.apart(1, 0, 1), 395);
    }

    private static void eyesLean() {
        LateMoons x = withMoons();
        x.tool(0, 5, 50);
        x.tool(0, 0, 7);
        x.tool(3, 1, -100);
        x.sight(0, 3, 500, 1000);
        x.sight(0, 3, 7001, 1000);
        CHECK.due("lean as 0, offset as it is", x.apart(5, 0, 2), -100);
        CHECK.due("greatest", x.apart(5, 0, 3), -100);
        x.sight(0, 3, 3000, 1000);
        CHECK.due("least of two", x.apart(5, 0, 2), -100);
        CHECK.due("greatest of two", x.apart(5, 0, 3), 20);
    }

    private static void apartRefuses() {
        LateMoons x = withMoons();
        CHECK.due("what 4", x.apart(0, 0, 4), Check.no(-2));
        CHECK.due("what -1", x.apart(9, 0, -1), Check.no(-2));
        CHECK.due("town 4", x.apart(4, 0, 0), Check.no(-1));
        CHECK.due("town 4", x.apart(0, 4, 1), Check.no(-1));
        CHECK.due("town -1", x.apart(-1, 0, 0), Check.no(-1));
        CHECK.due("one town twice", x.apart(2, 2, 1), Check.no(-1));
        CHECK.due("eye 6", x.apart(0, 6, 3), Check.no(-1));
        CHECK.due("eye -1", x.apart(0, -1, 2), Check.no(-1));
        CHECK.due("one eye twice", x.apart(5, 5, 2), Check.no(-1));
        CHECK.due("no pair of towns", x.apart(0, 3, 0), Check.no(-3));
        CHECK.due("no pair of eyes", x.apart(4, 5, 3), Check.no(-3));
        x.sight(0, 1, 0, 1);
        x.sight(0, 1, 5103, 2);
        CHECK.due("one of them is clouded", x.apart(0, 3, 0), Check.no(-3));
        CHECK.due("one of them is clouded", x.apart(0, 1, 2), Check.no(-3));
        CHECK.due("-1 counted", x.count(11), 7);
        CHECK.due("-2 counted", x.count(12), 2);
        CHECK.due("-3 counted", x.count(13), 4);
    }
}
