/** Promises 1 to 6: a new object, moon, pull, set, fading, far. */
public final class MoonsTest {
    private static final Check CHECK = new Check();

    public static void main(String[] args) {
        newObject();
        moonIsTold();
        moonRefuses();
        pullIsTold();
        pullRefuses();
        settings();
        fadingIsSeen();
        fadingRefuses();
        farOfSeconds();
        CHECK.end();
    }

    private static void newObject() {
        LateMoons x = new LateMoons();
        for (int what = 0; what <= 6; what++) {
            CHECK.due("new: count(" + what + ")", x.count(what), 0);
        }
        for (int what = 11; what <= 16; what++) {
            CHECK.due("new: count(" + what + ")", x.count(what), 0);
        }
        for (int m = 0; m <= 3; m++) {
            CHECK.due("new: fading of " + m, x.fading(m, 0, false), Check.no(-1));
        }
        CHECK.due("new: LIGHT", x.set(0, 0), 0);
        CHECK.due("new: YEAR", x.set(1, 1000), 31556952);
        CHECK.due("new: STEP", x.set(2, 1), 10);
        CHECK.due("new: PRICE", x.set(3, 0), 50);
        CHECK.due("new: SLACK", x.set(4, 0), 60);
        CHECK.due("new: no image", x.restore(), -3);
    }

    private static void moonIsTold() {
        LateMoons x = new LateMoons();
        CHECK.due("least moon", x.moon(0, 0, 1000, 0, 0), 1);
        CHECK.due("greatest moon", x.moon(3, 999999, 999999, 99, 9999), 1);
        CHECK.due("least fading", x.fading(0, 0, false), 0);
        CHECK.due("its last fading", x.fading(0, 999, false), 999000);
        CHECK.due("greatest first", x.fading(3, 0, false), 999999);
        CHECK.due("greatest out", x.fading(3, 2, false), 3 * 999999 + 99 * 4);
        CHECK.due("its last fading", x.fading(3, 999, false), 999999L + 999 * 999999L - 99 * 3);
        CHECK.due("told anew", x.moon(3, 10, 2000, 1, 5), 0);
        CHECK.due("fades anew", x.fading(3, 1, false), 2013);
        CHECK.due("two moons", x.count(0), 2);
        x.pull(0, 3, 4);
        CHECK.due("told anew", x.moon(0, 5, 1000, 0, 0), 0);
        CHECK.due("its pulls stay", x.pull(0, 3, 4), 4);
        x.sight(3, 0, 2000, 100);
        CHECK.due("by its length", x.right(0), 95);
    }

    private static void moonRefuses() {
        LateMoons x = new LateMoons();
        CHECK.due("moon 4", x.moon(4, -1, 1000, 0, 0), -1);
        CHECK.due("moon -1", x.moon(-1, 1000000, 1000, 0, 0), -1);
        CHECK.due("first below", x.moon(1, -1, 1000000, 100, 10000), -4);
        CHECK.due("first above", x.moon(1, 1000000, 999, -1, -1), -6);
        CHECK.due("period below", x.moon(1, 0, 999, 100, 10000), -4);
        CHECK.due("period above", x.moon(1, 0, 1000000, -1, -1), -6);
        CHECK.due("out below", x.moon(1, 0, 1000, -1, 10000), -4);
        CHECK.due("out above", x.moon(1, 0, 1000, 100, -1), -6);
        CHECK.due("length below", x.moon(1, 0, 1000, 0, -1), -4);
        CHECK.due("length above", x.moon(1, 0, 1000, 0, 10000), -6);
        CHECK.due("no moon came", x.count(0), 0);
        CHECK.due("-1 counted", x.count(11), 2);
        CHECK.due("-4 counted", x.count(14), 4);
        CHECK.due("-6 counted", x.count(16), 4);
    }

    private static void pullIsTold() {
        LateMoons x = new LateMoons();
        for (int m = 0; m <= 3; m++) {
            x.moon(m, 0, 1000, 0, 0);
        }
        CHECK.due("pull by 0", x.pull(1, 0, 2), 0);
        CHECK.due("pulled by 0", x.fading(1, 1, false), 1006);
        CHECK.due("pull by 2", x.pull(1, 2, 3), 0);
        CHECK.due("pulled by 0 and 2", x.fading(1, 1, false), 1015);
        CHECK.due("pull by 3", x.pull(1, 3, -9), 0);
        CHECK.due("the wave of 4 is 0", x.fading(1, 1, false), 1015);
        CHECK.due("waves of 2, 6, 8", x.fading(1, 2, false), 1996);
        CHECK.due("waves of 3, 9, 12", x.fading(1, 3, false), 3015);
        CHECK.due("waves of 5, 15, 20", x.fading(1, 5, false), 4985);
        CHECK.due("the other is not pulled", x.fading(0, 1, false), 1000);
        CHECK.due("greatest pull", x.pull(0, 1, 9), 0);
        CHECK.due("least pull", x.pull(0, 1, -9), 9);
        CHECK.due("what it was", x.pull(0, 1, 0), -9);
        CHECK.due("pull by 1", x.pull(3, 1, 5), 0);
        CHECK.due("pulled by 1", x.fading(3, 1, false), 1020);
    }

    private static void pullRefuses() {
        LateMoons x = new LateMoons();
        x.moon(0, 0, 1000, 0, 0);
        x.moon(1, 0, 1000, 0, 0);
        CHECK.due("no such", x.pull(-1, 0, 10), -101);
        CHECK.due("no such", x.pull(4, 0, -10), -101);
        CHECK.due("not there", x.pull(2, 0, 1), -101);
        CHECK.due("by none such", x.pull(0, -1, 1), -101);
        CHECK.due("by none such", x.pull(0, 4, 1), -101);
        CHECK.due("by one not there", x.pull(0, 2, 1), -101);
        CHECK.due("by itself", x.pull(1, 1, 1), -101);
        CHECK.due("below", x.pull(0, 1, -10), -104);
        CHECK.due("above", x.pull(0, 1, 10), -106);
        CHECK.due("still 0", x.pull(0, 1, 0), 0);
        CHECK.due("-1 counted", x.count(11), 7);
        CHECK.due("-4 counted", x.count(14), 1);
        CHECK.due("-6 counted", x.count(16), 1);
    }

    private static void settings() {
        int[] least = {0, 1000, 1, 0, 0};
        int[] greatest = {2000, 99999999, 60, 9999, 999};
        LateMoons x = new LateMoons();
        for (int what = 0; what <= 4; what++) {
            String name = "set(" + what + ") ";
            CHECK.due(name + "below", x.set(what, least[what] - 1), -4);
            CHECK.due(name + "far below", x.set(what, Integer.MIN_VALUE), -4);
            CHECK.due(name + "above", x.set(what, greatest[what] + 1), -6);
            x.set(what, least[what]);
            CHECK.due(name + "least", x.set(what, greatest[what]), least[what]);
            CHECK.due(name + "greatest", x.set(what, least[what]), greatest[what]);
        }
        CHECK.due("set(-1)", x.set(-1, 1), -2);
        CHECK.due("set(5)", x.set(5, -1), -2);
        CHECK.due("-2 counted", x.count(12), 2);
        CHECK.due("-4 counted", x.count(14), 10);
        CHECK.due("-6 counted", x.count(16), 5);
    }

    private static void fadingIsSeen() {
        LateMoons x = new LateMoons();
        x.moon(2, 250, 1000, 1, 0);
        x.set(1, 1000);
        CHECK.due("no light yet", x.fading(2, 0, true), 250);
        x.set(0, 2000);
        CHECK.due("far 500", x.fading(2, 0, true), 1250);
        x.set(0, 3);
        CHECK.due("cut", x.fading(2, 0, true), 251);
        CHECK.due("not seen", x.fading(2, 0, false), 250);
        x.set(0, 1000);
        CHECK.due("far 506", x.fading(2, 1, true), 1253 + 506);
        int[] wave = {0, 3, 4, 3, 0, -3, -4, -3, 0, 3};
        for (int k = 0; k < wave.length; k++) {
            CHECK.due("wave of " + k, x.fading(2, k, false), 250 + 1000 * k + wave[k]);
        }
    }

    private static void fadingRefuses() {
        LateMoons x = new LateMoons();
        x.moon(1, 0, 1000, 0, 0);
        CHECK.due("not there", x.fading(0, -1, true), Check.no(-1));
        CHECK.due("no such", x.fading(-1, 1000, true), Check.no(-1));
        CHECK.due("no such", x.fading(4, 0, true), Check.no(-1));
        CHECK.due("below", x.fading(1, -1, false), Check.no(-4));
        CHECK.due("above", x.fading(1, 1000, false), Check.no(-6));
        CHECK.due("-1 counted", x.count(11), 3);
        CHECK.due("-4 counted", x.count(14), 1);
        CHECK.due("-6 counted", x.count(16), 1);
    }

    private static void farOfSeconds() {
        LateMoons x = new LateMoons();
        CHECK.due("far(0)", x.far(0), 0);
        CHECK.due("half a year", x.far(15778476), 1000);
        CHECK.due("the last second", x.far(1999999999), 754);
        CHECK.due("above", x.far(2000000000), -6);
        CHECK.due("below", x.far(-1), -4);
        x.set(1, 1000);
        CHECK.due("rising", x.far(499), 998);
        CHECK.due("furthest", x.far(500), 1000);
        CHECK.due("falling", x.far(501), 998);
        CHECK.due("nearly round", x.far(999), 2);
        CHECK.due("round", x.far(1000), 0);
        x.set(1, 3000);
        CHECK.due("cut to 0", x.far(1), 0);
        CHECK.due("cut to 1", x.far(2), 1);
        CHECK.due("2000 less what is cut", x.far(2999), 1);
    }
}
