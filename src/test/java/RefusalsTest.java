import java.util.function.ToLongFunction;

/** Each call that can refuse: which refusal comes first, and that nothing changes but how many there were. */
public final class RefusalsTest {
    private static final Check CHECK = new Check();
    private static final int IN_PULL = -100;
    /** A set with a sight that the rich world has not. */
    private static final long MANY = 1L << 14;

    public static void main(String[] args) {
        moons();
        sights();
        tables();
        fits();
        foretold();
        post();
        full();
        none();
        CHECK.end();
    }

    private static void no(String call, int code, ToLongFunction<LateMoons> made) {
        compare(call, code, code, made);
    }

    private static void noLong(String call, int code, ToLongFunction<LateMoons> made) {
        compare(call, code, Check.no(code), made);
    }

    /** Held against a twin that had no such call. */
    private static void compare(String call, int code, long due, ToLongFunction<LateMoons> made) {
        LateMoons x = Look.rich();
        LateMoons twin = Look.rich();
        String before = Look.refusals(twin);
        CHECK.due(call, made.applyAsLong(x), due);
        StringBuilder counted = new StringBuilder();
        for (int what = 11; what <= 16; what++) {
            counted.append(twin.count(what) + (what == 10 - code ? 1 : 0)).append(' ');
        }
        CHECK.same("refusals after " + call + ", before " + before, Look.refusals(x), counted.toString());
        CHECK.same("all else after " + call, Look.atAll(x), Look.atAll(twin));
    }

    private static void moons() {
        no("moon(4, -1)", -1, x -> x.moon(4, -1, 0, 0, 0));
        no("moon(0, -1)", -4, x -> x.moon(0, -1, 5000, 1, 1));
        no("moon(0, length)", -6, x -> x.moon(0, 1, 5000, 1, 10000));
        no("moon(3, length)", -6, x -> x.moon(3, 1, 5000, 1, 10000));
        compare("pull(0, 3)", -1, IN_PULL - 1, x -> x.pull(0, 3, 10));
        compare("pull(0, 1, -10)", -4, IN_PULL - 4, x -> x.pull(0, 1, -10));
        compare("pull(0, 1, 10)", -6, IN_PULL - 6, x -> x.pull(0, 1, 10));
        no("set(5)", -2, x -> x.set(5, -1));
        no("set(1, 999)", -4, x -> x.set(1, 999));
        no("set(1, ..)", -6, x -> x.set(1, 100000000));
        noLong("fading(3)", -1, x -> x.fading(3, -1, true));
        noLong("fading(0, -1)", -4, x -> x.fading(0, -1, true));
        noLong("fading(0, 1000)", -6, x -> x.fading(0, 1000, false));
        no("far(-1)", -4, x -> x.far(-1));
        no("far(..)", -6, x -> x.far(Integer.MAX_VALUE));
        no("rhythm(0, 1, 3)", -1, x -> x.rhythm(0, 1, 3));
        no("rhythm(0, 1, 1)", -1, x -> x.rhythm(0, 1, 1));
    }

    private static void sights() {
        no("tool(4)", -2, x -> x.tool(4, 9, 100));
        no("tool(0, 6)", -1, x -> x.tool(0, 6, 100));
        no("tool(1, 3, -100)", -4, x -> x.tool(1, 3, -100));
        no("tool(3, 3, 43201)", -6, x -> x.tool(3, 3, 43201));
        no("sight(3)", -1, x -> x.sight(3, -1, 9000, -1));
        no("sight(0, 8000)", -2, x -> x.sight(0, -1, 8600, -1));
        no("sight(0, 4)", -1, x -> x.sight(0, -1, 4, -1));
        no("sight(second -1)", -4, x -> x.sight(0, 1000, 0, -1));
        no("sight(k 1000)", -6, x -> x.sight(0, 1000, 0, 1));
        noLong("right(14)", -1, x -> x.right(14));
        noLong("right(clouded)", -3, x -> x.right(9));
        noLong("apart(what)", -2, x -> x.apart(9, 9, 4));
        noLong("apart(1, 1)", -1, x -> x.apart(1, 1, 0));
        noLong("apart(4, 5)", -3, x -> x.apart(4, 5, 2));
        no("takeBack of one sent", -3, x -> x.send(13, 1, 4) + 9 + x.takeBack() + x.send(13, 1, -1) - 4);
    }

    private static void tables() {
        no("feed(0)", -4, x -> x.feed(0, 1));
        no("feed(9)", -6, x -> x.feed(9, 1));
        no("guess(4)", -1, x -> x.guess(4, -1, 1));
        no("guess(0, period)", -4, x -> x.guess(0, 1000000, 999));
        no("guess(0, first)", -6, x -> x.guess(0, 1000000, 1000));
        noLong("says(3)", -1, x -> x.says(3, 0, -1, -1));
        noLong("says(0, 3)", -1, x -> x.says(0, 3, -1, -1));
        noLong("says(k -1)", -4, x -> x.says(0, 0, -1, 7));
        noLong("says(k 1000)", -6, x -> x.says(0, 0, 1000, -1));
        noLong("says(numbers -1)", -4, x -> x.says(0, 0, 1, -1));
        noLong("says(numbers 7)", -6, x -> x.says(0, 0, 1, 7));
        noLong("says(numbers 49)", -6, x -> x.says(1, 0, 1, 49));
    }

    private static void fits() {
        noLong("fit(3)", -1, x -> x.fit(3, 0, -1, 3));
        noLong("fit(what)", -2, x -> x.fit(0, 0, -1, 3));
        noLong("fit(set -1)", -4, x -> x.fit(0, 0, -1, 0));
        noLong("fit(set too many)", -6, x -> x.fit(0, 0, MANY, 0));
        noLong("left(0, 14)", -1, x -> x.left(0, 14, -1));
        noLong("left(clouded)", -3, x -> x.left(0, 9, -1));
        noLong("left(set -1)", -4, x -> x.left(0, 0, -1));
        noLong("left(set too many)", -6, x -> x.left(0, 0, MANY));
        noLong("season(0, 3)", -1, x -> x.season(0, 3, -1));
        noLong("season(set -1)", -4, x -> x.season(0, 0, -1));
        noLong("season(set too many)", -6, x -> x.season(0, 0, MANY));
        noLong("worth(0, 1)", -1, x -> x.worth(0, 1, 0, -1));
        noLong("worth(set -1)", -4, x -> x.worth(0, 0, 0, -1));
        noLong("worth(set too many)", -6, x -> x.worth(0, 0, 0, MANY));
        no("best(3)", -1, x -> x.best(3, -1));
        no("best(set -1)", -4, x -> x.best(0, -1));
        no("best(set too many)", -6, x -> x.best(0, MANY));
        no("allMoons(0)", -1, x -> x.allMoons(0));
        no("allMoons(3)", -1, x -> x.allMoons(3));
    }

    private static void foretold() {
        noLong("foretold(3)", -1, x -> x.foretold(3, 0, -1, -1, true));
        noLong("foretold(k -1)", -4, x -> x.foretold(0, 0, -1, MANY, true));
        noLong("foretold(k 1000)", -6, x -> x.foretold(0, 0, 1000, -1, true));
        noLong("foretold(set -1)", -4, x -> x.foretold(0, 0, 1, -1, true));
        noLong("foretold(set too many)", -6, x -> x.foretold(0, 0, 1, MANY, false));
        no("parts(0, 3)", -1, x -> x.parts(0, 3, 0, -1, -1));
        no("parts(b -1)", -4, x -> x.parts(0, 1, 0, 1000, -1));
        no("parts(a 1000)", -6, x -> x.parts(0, 1, 0, 1000, 1));
        no("parts(5, 4)", -3, x -> x.parts(0, 1, 0, 5, 4));
        no("watch(3)", -1, x -> x.watch(3, -1, -1, 0));
        no("watch(n 0)", -4, x -> x.watch(0, 1000, 0, 0));
        no("watch(n 5)", -6, x -> x.watch(0, 5, 4, 5));
        no("watch(thirteen)", -6, x -> x.watch(0, 0, 12, 1));
        no("watch(5, 4)", -3, x -> x.watch(0, 5, 4, 1));
        no("watch(too few)", -3, x -> x.watch(0, 5, 6, 3));
    }

    private static void post() {
        no("send(14)", -1, x -> x.send(14, 0, -2));
        no("send(0, 4)", -1, x -> x.send(0, 4, -2));
        no("send(day -2)", -4, x -> x.send(0, 0, -2));
        no("send(day 1000)", -6, x -> x.send(0, 0, 1000));
        noLong("has(4)", -1, x -> x.has(4, -1));
        noLong("has(day -1)", -4, x -> x.has(0, -1));
        noLong("has(day 1000)", -6, x -> x.has(0, 1000));
        no("believes(4)", -1, x -> x.believes(4, -1, 0));
        no("believes(moon 3)", -1, x -> x.believes(0, -1, 3));
        no("believes(day -1)", -4, x -> x.believes(0, -1, 0));
        no("believes(day 1000)", -6, x -> x.believes(0, 1000, 0));
        noLong("turn(4)", -1, x -> x.turn(4, -1, 0));
        noLong("turn(moon 3)", -1, x -> x.turn(0, -1, 3));
        noLong("turn(day -1)", -4, x -> x.turn(0, -1, 0));
        noLong("turn(day 1000)", -6, x -> x.turn(0, 1000, 0));
    }

    /** What is refused when there is no room, with what stays. */
    private static void full() {
        LateMoons x = Look.rich();
        Check.feed(x, "0123456789abcdef");
        CHECK.due("text is full", x.count(5), 20);
        CHECK.due("a byte more", x.feed(1, 'e'), -6);
        CHECK.due("text stays", x.count(5), 20);
        x.table();
        for (int i = x.count(3); i < 8; i++) {
            Check.table(x, "e");
        }
        CHECK.due("a ninth table", Check.table(x, "o"), -6);
        CHECK.due("text stays", x.count(5), 1);
        for (int i = x.count(4); i < 80; i++) {
            x.put(-1);
        }
        CHECK.due("an int more", x.put(1), -6);
        CHECK.due("rows stay", x.count(4), 80);
        CHECK.due("the first row was as told", x.read(), 1);
        for (int i = x.count(1); i < 40; i++) {
            x.sight(0, 1, 0, 1);
        }
        CHECK.due("a sight more", x.sight(0, 1, 0, 1), -6);
        CHECK.due("forty", x.count(1), 40);
        CHECK.due("-6 counted", x.count(16), 4);
    }

    private static void none() {
        LateMoons x = new LateMoons();
        x.moon(0, 0, 1000, 0, 0);
        CHECK.due("best of no tables", x.best(0, -1), -3);
        CHECK.due("believes of no tables", x.believes(0, -1, 0), -3);
        CHECK.due("turn of no tables", x.turn(0, -1, 0), Check.no(-3));
        CHECK.due("no image", x.restore(), -3);
        CHECK.due("no sight", x.takeBack(), -3);
        CHECK.due("-3 counted", x.count(13), 5);
    }
}
