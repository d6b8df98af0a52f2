/** Promises 27 to 30: send, has, believes, turn. */
public final class PostTest {
    private static final Check CHECK = new Check();

    public static void main(String[] args) {
        sending();
        sendRefuses();
        having();
        hasRefuses();
        believing();
        believesRefuses();
        oneLetterTurns();
        twoLettersTurn();
        leastOfSeveral();
        firstEightAlone();
        nothingTurns();
        turnRefuses();
        CHECK.end();
    }

    private static void sending() {
        LateMoons x = Check.with();
        Check.off(x, 1, 0);
        Check.off(x, 2, 0);
        CHECK.due("sent at first", x.send(1, 3, 0), -9);
        CHECK.due("sent anew", x.send(1, 3, 999), 0);
        CHECK.due("to another", x.send(1, 0, 7), -9);
        CHECK.due("sent in all", x.count(6), 2);
        CHECK.due("not sent", x.send(1, 3, -1), 999);
        CHECK.due("not sent again", x.send(1, 3, -1), -9);
        CHECK.due("sent in all", x.count(6), 1);
        CHECK.due("the other sight", x.send(0, 0, 8), -9);
        CHECK.due("sent in all", x.count(6), 2);
    }

    private static void sendRefuses() {
        LateMoons x = Check.with();
        Check.off(x, 1, 0);
        CHECK.due("no sight", x.send(1, 0, -2), -1);
        CHECK.due("no sight", x.send(-1, 0, 1000), -1);
        CHECK.due("no holder", x.send(0, 4, -2), -1);
        CHECK.due("no holder", x.send(0, -1, 1000), -1);
        CHECK.due("day below", x.send(0, 0, -2), -4);
        CHECK.due("day above", x.send(0, 0, 1000), -6);
        CHECK.due("nothing sent", x.count(6), 0);
        CHECK.due("-1 counted", x.count(11), 4);
    }

    private static void having() {
        LateMoons x = Check.with();
        for (int i = 0; i < 40; i++) {
            Check.off(x, 1, i);
        }
        x.sight(0, 1, 5000, 0);
        x.send(0, 2, 0);
        x.send(39, 2, 10);
        x.send(5, 2, 11);
        x.send(6, 1, 0);
        CHECK.due("on day 0", x.has(2, 0), 1);
        CHECK.due("the day before", x.has(2, 9), 1);
        CHECK.due("on the day", x.has(2, 10), 1 | 1L << 39);
        CHECK.due("at last", x.has(2, 999), 1 | 1L << 39 | 32);
        CHECK.due("another holder", x.has(1, 999), 64);
        CHECK.due("a holder of nothing", x.has(0, 999), 0);
        LateMoons y = Check.with();
        y.sight(0, 1, 5000, 0);
        y.send(0, 0, 3);
        CHECK.due("clouded ones come, too", y.has(0, 3), 1);
    }

    private static void hasRefuses() {
        LateMoons x = Check.with();
        CHECK.due("no holder", x.has(4, -1), Check.no(-1));
        CHECK.due("no holder", x.has(-1, 1000), Check.no(-1));
        CHECK.due("below", x.has(0, -1), Check.no(-4));
        CHECK.due("above", x.has(3, 1000), Check.no(-6));
        CHECK.due("-1 counted", x.count(11), 2);
    }

    private static void believing() {
        LateMoons x = Check.with("e", "o");
        Check.off(x, 2, 40);
        Check.off(x, 1, 20);
        x.send(0, 0, 5);
        x.send(1, 1, 5);
        CHECK.due("by nothing", x.believes(0, 4, 0), 0);
        CHECK.due("by the wave", x.believes(0, 5, 0), 1);
        CHECK.due("by the even one", x.believes(1, 5, 0), 0);
        x.moon(1, 0, 1000, 0, 0);
        CHECK.due("of another moon", x.believes(0, 5, 1), 0);
    }

    private static void believesRefuses() {
        LateMoons x = Check.with();
        CHECK.due("no holder", x.believes(4, -1, 0), -1);
        CHECK.due("no holder", x.believes(-1, 0, 0), -1);
        CHECK.due("no moon", x.believes(0, 1000, 1), -1);
        CHECK.due("no tables", x.believes(0, -1, 0), -3);
        Check.table(x, "e");
        CHECK.due("day below", x.believes(0, -1, 0), -4);
        CHECK.due("day above", x.believes(0, 1000, 0), -6);
        CHECK.due("-1 counted", x.count(11), 3);
        CHECK.due("-3 counted", x.count(13), 1);
    }

    private static void oneLetterTurns() {
        LateMoons x = Check.with("e", "o");
        Check.off(x, 1, 30);
        Check.off(x, 2, 40);
        Check.off(x, 2, 40);
        CHECK.due("the first that turns alone", x.turn(0, 0, 0), 2);
        x.send(1, 0, 1);
        CHECK.due("not on that day yet", x.turn(0, 0, 0), 2);
        CHECK.due("believing the other, nothing turns", x.turn(0, 1, 0), -9);
        CHECK.due("of another holder", x.turn(1, 1, 0), 2);
        Check.off(x, 1, 0);
        Check.off(x, 1, 0);
        CHECK.due("two turn him back", x.turn(0, 1, 0), 24);
    }

    /** One of fading 1 and one of fading 5 can each be even or out of round; both together only the latter. */
    private static void twoLettersTurn() {
        LateMoons x = Check.with("e", "o");
        Check.off(x, 1, 30);
        Check.off(x, 5, -30);
        CHECK.due("both", x.turn(2, 0, 0), 3);
        x.send(0, 2, 4);
        CHECK.due("the other one", x.turn(2, 4, 0), 2);
        x.send(0, 2, -1);
        x.send(1, 2, 4);
        CHECK.due("the one", x.turn(2, 4, 0), 1);
    }

    private static void leastOfSeveral() {
        LateMoons x = Check.with("e", "o");
        Check.off(x, 5, -30);
        Check.off(x, 5, -30);
        Check.off(x, 1, 30);
        Check.off(x, 1, 30);
        CHECK.due("0 and 2 before 1 and 2, 0 and 3", x.turn(0, 0, 0), 5);
        x.send(0, 0, 0);
        CHECK.due("one alone now", x.turn(0, 0, 0), 4);
        LateMoons y = Check.with("e", "o");
        Check.off(y, 1, -10);
        Check.off(y, 8, -20);
        Check.off(y, 2, 30);
        Check.off(y, 5, 30);
        // left of e and of o: 0 and 1: 10, 30; 0 and 2: 40, 40; 1 and 2: 50, 30; 0 and 3: 40, 20
        CHECK.due("1 and 2 before 0 and 3", y.turn(0, 0, 0), 6);
    }

    private static void firstEightAlone() {
        LateMoons x = Check.with("e", "o");
        x.moon(1, 0, 1000, 0, 0);
        x.sight(1, 1, 0, 1030);
        x.sight(0, 1, 5000, 1030);
        for (int i = 0; i < 8; i++) {
            Check.off(x, 1, 30);
        }
        Check.off(x, 5, -30);
        CHECK.due("the ninth is not looked at", x.turn(0, 0, 0), -9);
        x.send(4, 0, 1);
        CHECK.due("it is the eighth now", x.turn(0, 1, 0), 1 << 10);
    }

    private static void nothingTurns() {
        LateMoons x = Check.with("e");
        Check.off(x, 2, 40);
        CHECK.due("one table", x.turn(0, 0, 0), -9);
        LateMoons y = Check.with("e", "o");
        CHECK.due("no sights", y.turn(0, 0, 0), -9);
        y.sight(0, 2, 5000, 2040);
        CHECK.due("clouded ones turn nobody", y.turn(0, 0, 0), -9);
        y.moon(1, 0, 1000, 0, 0);
        y.sight(1, 2, 0, 2040);
        CHECK.due("nor those of another moon", y.turn(0, 0, 0), -9);
        CHECK.due("but those of that moon", y.turn(0, 0, 1), 2);
        CHECK.due("-9 is no refusal", y.count(11) + y.count(13), 0);
    }

    private static void turnRefuses() {
        LateMoons x = Check.with();
        CHECK.due("no holder", x.turn(4, -1, 0), Check.no(-1));
        CHECK.due("no holder", x.turn(-1, 0, 0), Check.no(-1));
        CHECK.due("no moon", x.turn(0, 1000, 1), Check.no(-1));
        CHECK.due("no tables", x.turn(0, -1, 0), Check.no(-3));
        Check.table(x, "e");
        CHECK.due("day below", x.turn(0, -1, 0), Check.no(-4));
        CHECK.due("day above", x.turn(0, 1000, 0), Check.no(-6));
        CHECK.due("-1 counted", x.count(11), 3);
        CHECK.due("-3 counted", x.count(13), 1);
    }
}
