/** Promises 23 to 25 and 31: foretold, parts, rhythm, watch. */
public final class ForetoldTest {
    private static final Check CHECK = new Check();

    public static void main(String[] args) {
        foretold();
        foretoldRefuses();
        parts();
        partsRefuses();
        rhythms();
        rhythmRefuses();
        nights();
        nightsWithFewTables();
        watchRefuses();
        CHECK.end();
    }

    private static void foretold() {
        LateMoons x = Check.with("e");
        x.moon(0, 100, 1000, 0, 0);
        x.set(0, 1000);
        x.set(1, 10000);
        x.guess(0, 100, 1000);
        x.sight(0, 0, 0, 130);
        CHECK.due("by the fit", x.foretold(0, 0, 4, 1, false), 4130);
        CHECK.due("as it is seen less that", x.foretold(0, 0, 4, 1, true), 4920 - 4130);
        CHECK.due("by no sights", x.foretold(0, 0, 4, 0, false), 4070);
        CHECK.due("the last", x.foretold(0, 0, 999, 1, false), 999130);
        x.moon(0, 0, 1000, 99, 0);
        CHECK.due("it says the same", x.foretold(0, 0, 5, 1, false), 5130);
        CHECK.due("by how it truly fades", x.foretold(0, 0, 5, 1, true), 4703 + 940 - 5130);
    }

    private static void foretoldRefuses() {
        LateMoons x = Check.with("e");
        CHECK.due("no table", x.foretold(1, 0, -1, -1, true), Check.no(-1));
        CHECK.due("no table", x.foretold(-1, 0, 0, 0, false), Check.no(-1));
        CHECK.due("no moon", x.foretold(0, 1, 1000, 1, true), Check.no(-1));
        CHECK.due("k below", x.foretold(0, 0, -1, 1, true), Check.no(-4));
        CHECK.due("k above", x.foretold(0, 0, 1000, -1, true), Check.no(-6));
        CHECK.due("set below", x.foretold(0, 0, 0, -1, true), Check.no(-4));
        CHECK.due("set above", x.foretold(0, 0, 0, 1, true), Check.no(-6));
        CHECK.due("-1 counted", x.count(11), 3);
        CHECK.due("-4 counted", x.count(14), 2);
        CHECK.due("-6 counted", x.count(16), 2);
    }

    /** Fits: e 1; o 1. So they are 10 less 10 waves apart: 10, 20, 30, 20, 10, 40, 50, 40, and again. */
    private static void parts() {
        LateMoons x = Check.with("e", "o");
        Check.off(x, 1, 10);
        Check.off(x, 2, 40);
        Check.off(x, 6, -40);
        CHECK.due("of all", x.parts(0, 1, 0, 0, 999), 6);
        CHECK.due("the other way round", x.parts(1, 0, 0, 0, 999), 6);
        CHECK.due("to 5", x.parts(0, 1, 0, 0, 5), 5);
        CHECK.due("to 4", x.parts(0, 1, 0, 0, 4), 2);
        CHECK.due("from 3 to 4", x.parts(0, 1, 0, 3, 4), 3);
        CHECK.due("of several the least", x.parts(0, 1, 0, 7, 13), 7);
        CHECK.due("to 14", x.parts(0, 1, 0, 7, 14), 14);
        CHECK.due("one alone", x.parts(0, 1, 0, 999, 999), 999);
        CHECK.due("a table and itself", x.parts(0, 0, 0, 3, 9), 3);
        for (int i = 0; i < 4; i++) {
            Check.off(x, 8, -10);
        }
        CHECK.due("e -1 by all sights", x.parts(0, 1, 0, 0, 9), 2);
    }

    private static void partsRefuses() {
        LateMoons x = Check.with("e", "o");
        CHECK.due("no table", x.parts(2, 0, 0, -1, -1), -1);
        CHECK.due("no table", x.parts(0, 2, 0, 1, 1), -1);
        CHECK.due("no table", x.parts(0, -1, 0, 1, 1), -1);
        CHECK.due("no moon", x.parts(0, 1, 1, 5, 4), -1);
        CHECK.due("a below", x.parts(0, 1, 0, -1, 1000), -4);
        CHECK.due("b below", x.parts(0, 1, 0, 1000, -1), -4);
        CHECK.due("a above", x.parts(0, 1, 0, 1000, 0), -6);
        CHECK.due("b above", x.parts(0, 1, 0, 0, 1000), -6);
        CHECK.due("b below a", x.parts(0, 1, 0, 5, 4), -3);
        CHECK.due("-1 counted", x.count(11), 4);
        CHECK.due("-3 counted", x.count(13), 1);
        CHECK.due("-4 counted", x.count(14), 2);
        CHECK.due("-6 counted", x.count(16), 2);
    }

    private static int rhythm(int px, int py, int pz) {
        LateMoons x = new LateMoons();
        x.moon(0, 0, px, 0, 0);
        x.moon(1, 0, py, 0, 0);
        x.moon(3, 0, pz, 0, 0);
        return x.rhythm(0, 1, 3);
    }

    private static void rhythms() {
        CHECK.due("1, 2, 4: 0, 1, -2", rhythm(1000, 2000, 4000), 341);
        CHECK.due("all the same: 0, 1, -1", rhythm(5000, 5000, 5000), 342);
        CHECK.due("the last two the same", rhythm(999999, 1000, 1000), 342);
        CHECK.due("the first two the same: 1, -1, 0", rhythm(1000, 1000, 999983), 423);
        CHECK.due("nothing near: 0, 0, 1", rhythm(1000, 1700, 999999), 334);
        CHECK.due("the greatest periods: 0, 1, -1", rhythm(999999, 999999, 999999), 342);
    }

    private static void rhythmRefuses() {
        LateMoons x = new LateMoons();
        x.moon(0, 0, 1000, 0, 0);
        x.moon(1, 0, 2000, 0, 0);
        CHECK.due("not there", x.rhythm(0, 1, 2), -1);
        CHECK.due("not there", x.rhythm(2, 0, 1), -1);
        CHECK.due("not there", x.rhythm(0, 2, 1), -1);
        CHECK.due("none such", x.rhythm(0, 1, 4), -1);
        CHECK.due("none such", x.rhythm(-1, 1, 0), -1);
        x.moon(2, 0, 4000, 0, 0);
        CHECK.due("one twice", x.rhythm(0, 0, 1), -1);
        CHECK.due("one twice", x.rhythm(1, 0, 1), -1);
        CHECK.due("one twice", x.rhythm(0, 1, 1), -1);
        CHECK.due("-1 counted", x.count(11), 8);
    }

    /**
     * Fits: o 1, p1 1, e -1 (as good as 0 .. 3). For fadings 0 .. 7, and again, o and p1 are apart by
     * 0 10 40 70 0 70 40 10, o and e by 10 40 50 40 10 20 30 20, p1 and e by 10 50 10 30 10 50 10 30.
     */
    private static LateMoons withThree() {
        LateMoons x = Check.with("o", "p1", "e");
        Check.off(x, 2, 40);
        Check.off(x, 6, -40);
        Check.off(x, 1, 70);
        Check.off(x, 3, -10);
        return x;
    }

    private static void nights() {
        LateMoons x = withThree();
        CHECK.due("one: 3 as good as 5", x.watch(0, 0, 7, 1), 8);
        CHECK.due("two: 2 and 5", x.watch(0, 0, 7, 2), 36);
        CHECK.due("three: 1, 2, 3", x.watch(0, 0, 7, 3), 14);
        CHECK.due("four: 0 comes along", x.watch(0, 0, 7, 4), 15);
        CHECK.due("bit 0 for a", x.watch(0, 8, 15, 2), 36);
        CHECK.due("from 4 on", x.watch(0, 4, 15, 1), 2);
        CHECK.due("all there are", x.watch(0, 998, 999, 2), 3);
        CHECK.due("one of one", x.watch(0, 0, 0, 1), 1);
        CHECK.due("twelve, from one like 4 on", x.watch(0, 988, 999, 4), 71);
    }

    private static void nightsWithFewTables() {
        LateMoons x = Check.with();
        CHECK.due("no tables: the least", x.watch(0, 0, 11, 3), 7);
        Check.table(x, "e");
        CHECK.due("one table: the least", x.watch(0, 0, 11, 4), 15);
    }

    private static void watchRefuses() {
        LateMoons x = withThree();
        CHECK.due("no moon", x.watch(1, -1, 1000, 9), -1);
        CHECK.due("no moon", x.watch(4, 0, 0, 0), -1);
        CHECK.due("n below", x.watch(0, 1000, 0, 0), -4);
        CHECK.due("a below", x.watch(0, -1, 1000, 5), -4);
        CHECK.due("b below", x.watch(0, 1000, -1, 5), -4);
        CHECK.due("wild numbers", x.watch(0, Integer.MIN_VALUE, Integer.MAX_VALUE, 1), -4);
        CHECK.due("n above", x.watch(0, 5, 4, 5), -6);
        CHECK.due("a above", x.watch(0, 1000, 4, 1), -6);
        CHECK.due("b above", x.watch(0, 999, 1000, 4), -6);
        CHECK.due("thirteen", x.watch(0, 0, 12, 4), -6);
        CHECK.due("b below a", x.watch(0, 5, 4, 1), -3);
        CHECK.due("far below", x.watch(0, 999, 0, 1), -3);
        CHECK.due("fewer than n", x.watch(0, 5, 7, 4), -3);
        CHECK.due("-1 counted", x.count(11), 2);
        CHECK.due("-3 counted", x.count(13), 3);
        CHECK.due("-4 counted", x.count(14), 4);
        CHECK.due("-6 counted", x.count(16), 4);
    }
}
