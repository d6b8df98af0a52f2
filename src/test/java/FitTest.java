/** Promises 17 to 22: fit, left, season, worth, best, allMoons. */
public final class FitTest {
    private static final Check CHECK = new Check();

    public static void main(String[] args) {
        firstOfSeveral();
        threeTerms();
        onlyItsSights();
        fitRefuses();
        leftOfSights();
        leftRefuses();
        seasons();
        seasonRefuses();
        worths();
        worthRefuses();
        bestTable();
        bestRefuses();
        lightOfAllMoons();
        otherNumbersOfEach();
        allMoonsRefuses();
        CHECK.end();
    }

    private static void firstOfSeveral() {
        LateMoons x = Check.with("e", "e+o", "o+e", "p0+e", "e+p0");
        CHECK.due("no sights: all -3", x.fit(1, 0, 0, 0), 0);
        CHECK.due("no sights: nothing left", x.fit(1, 0, 0, 2), 0);
        CHECK.due("no sights: the price alone", x.fit(1, 0, 0, 1), 100);
        Check.off(x, 1, 0);
        Check.off(x, 1, 10);
        CHECK.due("0 and 1 are as good", x.fit(0, 0, 3, 0), 3);
        CHECK.due("sum", x.fit(0, 0, 3, 2), 10);
        CHECK.due("score", x.fit(0, 0, 3, 1), 60);
        Check.off(x, 1, 30);
        CHECK.due("the first term is the slowest", x.fit(1, 0, 4, 0), 35);
        CHECK.due("the other way round", x.fit(2, 0, 4, 0), 45);
        CHECK.due("what changes nothing is -3", x.fit(3, 0, 4, 0), 42);
        CHECK.due("what changes nothing is -3", x.fit(4, 0, 4, 0), 6);
        x.set(3, 9999);
        CHECK.due("score by price", x.fit(1, 0, 4, 1), 19998);
    }

    private static void threeTerms() {
        LateMoons x = Check.with("e+o+p1");
        Check.off(x, 1, 210);
        CHECK.due("numbers", x.fit(0, 0, 1, 0), 339);
        CHECK.due("sum", x.fit(0, 0, 1, 2), 0);
        CHECK.due("score", x.fit(0, 0, 1, 1), 150);
        Check.off(x, 1, 1000000);
        CHECK.due("beyond all", x.fit(0, 0, 2, 0), 342);
        CHECK.due("what is left then", x.fit(0, 0, 2, 2), 1000000 - 240);
    }

    private static void onlyItsSights() {
        LateMoons x = Check.with("e");
        x.moon(1, 0, 1000, 0, 0);
        Check.off(x, 1, 20);
        x.sight(1, 1, 0, 1500);
        x.sight(0, 1, 5000, 1500);
        Check.off(x, 1, -20);
        CHECK.due("of one moon, not clouded", x.fit(0, 0, 7, 0), 5);
        CHECK.due("all fits", x.fit(0, 0, 7, 2), 0);
        CHECK.due("of the set alone", x.fit(0, 0, 8, 0), 1);
        CHECK.due("the other moon", x.fit(0, 1, 15, 2), 470);
        x.tool(0, 0, 20);
        CHECK.due("put right", x.fit(0, 0, 1, 0), 3);
    }

    private static void fitRefuses() {
        LateMoons x = Check.with("e");
        Check.off(x, 1, 0);
        CHECK.due("no table", x.fit(1, 0, -1, 9), Check.no(-1));
        CHECK.due("no table", x.fit(-1, 0, 0, 0), Check.no(-1));
        CHECK.due("no moon", x.fit(0, 4, 0, 0), Check.no(-1));
        CHECK.due("moon not there", x.fit(0, 1, 0, 9), Check.no(-1));
        CHECK.due("what 3", x.fit(0, 0, -1, 3), Check.no(-2));
        CHECK.due("what -1", x.fit(0, 0, 2, -1), Check.no(-2));
        CHECK.due("set below", x.fit(0, 0, Long.MIN_VALUE, 0), Check.no(-4));
        CHECK.due("set above", x.fit(0, 0, 2, 0), Check.no(-6));
        CHECK.due("set far above", x.fit(0, 0, Long.MAX_VALUE, 0), Check.no(-6));
        CHECK.due("-1 counted", x.count(11), 4);
        CHECK.due("-2 counted", x.count(12), 2);
        CHECK.due("-4 counted", x.count(14), 1);
        CHECK.due("-6 counted", x.count(16), 2);
        LateMoons y = Check.with("e");
        for (int i = 0; i < 40; i++) {
            Check.off(y, 1, 10);
        }
        CHECK.due("all forty", y.fit(0, 0, (1L << 40) - 1, 0), 4);
        CHECK.due("the forty-first", y.fit(0, 0, 1L << 40, 0), Check.no(-6));
    }

    private static void leftOfSights() {
        LateMoons x = Check.with("e");
        Check.off(x, 1, 25);
        Check.off(x, 2, -7);
        CHECK.due("by its own fit", x.left(0, 0, 1), 5);
        CHECK.due("of another one", x.left(0, 1, 1), -27);
        CHECK.due("by the other's", x.left(0, 0, 2), 35);
        CHECK.due("by none", x.left(0, 0, 0), 55);
        x.moon(1, 0, 1000, 0, 0);
        x.sight(1, 1, 0, 1015);
        CHECK.due("a fit to its moon", x.left(0, 2, 7), 5);
        CHECK.due("no sights of its moon", x.left(0, 2, 3), 45);
    }

    private static void leftRefuses() {
        LateMoons x = Check.with("e");
        Check.off(x, 1, 0);
        x.sight(0, 1, 5000, 0);
        CHECK.due("no table", x.left(1, 0, -1), Check.no(-1));
        CHECK.due("no table", x.left(-1, 0, 0), Check.no(-1));
        CHECK.due("no sight", x.left(0, 2, 4), Check.no(-1));
        CHECK.due("no sight", x.left(0, -1, 0), Check.no(-1));
        CHECK.due("clouded", x.left(0, 1, -1), Check.no(-3));
        CHECK.due("set below", x.left(0, 0, -1), Check.no(-4));
        CHECK.due("set above", x.left(0, 0, 4), Check.no(-6));
        CHECK.due("-1 counted", x.count(11), 4);
        CHECK.due("-3 counted", x.count(13), 1);
    }

    private static void seasons() {
        LateMoons x = Check.with("e");
        x.set(1, 10000);
        x.guess(0, 0, 2500);
        x.sight(0, 1, 0, 2514);
        x.sight(0, 2, 0, 5030);
        x.sight(0, 0, 0, 5);
        x.sight(0, 2, 5000, 9999);
        CHECK.due("500 is not above", x.season(0, 0, 15), 20 - (4 - 5));
        CHECK.due("of the set alone", x.season(0, 0, 5), -(4 - 5));
        CHECK.due("of no sights", x.season(0, 0, 8), 0);
        x.guess(0, 5, 2500);
        CHECK.due("501 is", x.season(0, 0, 3), 15 - 1);
        x.sight(0, 2, 0, 6005);
        CHECK.due("signs stay", x.season(0, 0, 16), 970);
    }

    private static void seasonRefuses() {
        LateMoons x = Check.with("e");
        CHECK.due("no table", x.season(1, 0, -1), Check.no(-1));
        CHECK.due("no moon", x.season(0, 1, 1), Check.no(-1));
        CHECK.due("no moon", x.season(0, -1, 1), Check.no(-1));
        CHECK.due("below", x.season(0, 0, -1), Check.no(-4));
        CHECK.due("above", x.season(0, 0, 1), Check.no(-6));
        CHECK.due("-1 counted", x.count(11), 3);
    }

    /** Left of e alone 80, of o alone and of both 20, of none 90. */
    private static LateMoons withWaves(String... texts) {
        LateMoons x = Check.with(texts);
        Check.off(x, 1, 10);
        Check.off(x, 2, 40);
        Check.off(x, 6, -40);
        return x;
    }

    private static void worths() {
        LateMoons x = withWaves("e+o", "e", "o");
        CHECK.due("of e beside o", x.worth(0, 0, 0, 7), 70 - 120);
        CHECK.due("of o beside e", x.worth(0, 1, 0, 7), 130 - 120);
        CHECK.due("of o alone", x.worth(2, 0, 0, 7), 90 - 70);
        CHECK.due("of e alone", x.worth(1, 0, 0, 7), 90 - 130);
        CHECK.due("by no sights", x.worth(0, 1, 0, 0), -50);
        x.set(3, 1);
        CHECK.due("by the price", x.worth(0, 1, 0, 7), 81 - 22);
        CHECK.due("the table is whole still", x.fit(0, 0, 7, 1), 22);
        Check.table(x, "p0+o+e");
        CHECK.due("of what changes nothing", x.worth(3, 0, 0, 7), -1);
        CHECK.due("of the middle one", x.worth(3, 1, 0, 7), 82 - 23);
        CHECK.due("of the last one", x.worth(3, 2, 0, 7), 22 - 23);
    }

    private static void worthRefuses() {
        LateMoons x = Check.with("e+o", "e");
        CHECK.due("no table", x.worth(2, 0, 0, -1), Check.no(-1));
        CHECK.due("no term", x.worth(0, 2, 0, -1), Check.no(-1));
        CHECK.due("no term", x.worth(0, -1, 0, 0), Check.no(-1));
        CHECK.due("no term of this one", x.worth(1, 1, 0, 0), Check.no(-1));
        CHECK.due("no moon", x.worth(0, 0, 3, 1), Check.no(-1));
        CHECK.due("below", x.worth(0, 0, 0, -1), Check.no(-4));
        CHECK.due("above", x.worth(0, 0, 0, 1), Check.no(-6));
        CHECK.due("-1 counted", x.count(11), 5);
    }

    private static void bestTable() {
        LateMoons x = withWaves("e+o", "e", "o");
        CHECK.due("by score", x.best(0, 7), 2);
        x.set(3, 0);
        CHECK.due("of several the least number", x.best(0, 7), 0);
        CHECK.due("by no sights", x.best(0, 0), 0);
        CHECK.due("of the set alone", x.best(0, 1), 0);
        x.set(3, 9999);
        CHECK.due("one term is cheaper", x.best(0, 1), 1);
    }

    private static void bestRefuses() {
        LateMoons x = Check.with();
        CHECK.due("no moon", x.best(1, -1), -1);
        CHECK.due("no moon", x.best(-1, -1), -1);
        CHECK.due("no tables", x.best(0, -1), -3);
        Check.table(x, "e");
        CHECK.due("below", x.best(0, -1), -4);
        CHECK.due("above", x.best(0, 1), -6);
        CHECK.due("-1 counted", x.count(11), 2);
        CHECK.due("-3 counted", x.count(13), 1);
    }

    private static void lightOfAllMoons() {
        LateMoons x = new LateMoons();
        Check.table(x, "l");
        CHECK.due("no moons at all", x.allMoons(0), 127);
        x.moon(0, 0, 1000, 0, 0);
        x.set(1, 10000);
        x.guess(0, 5000, 1000);
        CHECK.due("no sights", x.allMoons(0), 127);
        x.sight(0, 0, 0, 5150);
        CHECK.due("1 and 2", x.allMoons(0), 48);
        x.moon(1, 0, 1000, 0, 0);
        x.guess(1, 5000, 1000);
        CHECK.due("the other has no sights", x.allMoons(0), 48);
        x.sight(1, 0, 0, 5040);
        CHECK.due("0 and 1 with the other", x.allMoons(0), 16);
        x.sight(1, 0, 5000, 9000);
        CHECK.due("clouds tell nothing", x.allMoons(0), 16);
        x.set(4, 59);
        CHECK.due("60 is too much now", x.allMoons(0), 0);
        x.set(4, 60);
        x.sight(1, 0, 0, 5030);
        CHECK.due("each of its sights", x.allMoons(0), 0);
        x.set(4, 999);
        CHECK.due("all with much slack", x.allMoons(0), 127);
    }

    private static void otherNumbersOfEach() {
        LateMoons x = new LateMoons();
        x.moon(0, 0, 1000, 0, 0);
        x.moon(1, 0, 1000, 0, 0);
        x.set(1, 10000);
        x.set(4, 0);
        x.guess(0, 5000, 1000);
        x.guess(1, 5000, 1000);
        Check.table(x, "e+l");
        Check.table(x, "l+e");
        x.sight(0, 0, 0, 5120);
        x.sight(1, 0, 0, 5080);
        CHECK.due("e 2 of the one, -2 of the other", x.allMoons(0), 16);
        CHECK.due("the other way round", x.allMoons(1), 16);
        x.sight(1, 0, 0, 5090);
        CHECK.due("the same numbers for all sights of one", x.allMoons(0), 0);
    }

    private static void allMoonsRefuses() {
        LateMoons x = Check.with("e", "o+p1+p2", "l");
        CHECK.due("without l", x.allMoons(0), -1);
        CHECK.due("without l", x.allMoons(1), -1);
        CHECK.due("no table", x.allMoons(3), -1);
        CHECK.due("no table", x.allMoons(-1), -1);
        CHECK.due("-1 counted", x.count(11), 4);
    }
}
