import java.util.HashMap;
import java.util.Map;
import java.util.function.Supplier;
import java.util.function.ToLongFunction;

/**
 * "The call answers the number, the first that fits in the order in which it tells them; nothing changes but how many
 * there were": each refusal of each call, with all that comes later in its order wrong as well where that can be.
 */
public final class RefusalsTest {
    private static final Check CHECK = new Check();
    private static final int LEAST = Integer.MIN_VALUE;
    private static final int MOST = Integer.MAX_VALUE;
    /** A set with a sight that the rich world has not: it has 0 to 13. */
    private static final long MANY = 1L << 14;

    private static Supplier<LateMoons> world = Look::rich;
    private static final Map<Supplier<LateMoons>, String> UNTOUCHED = new HashMap<>();

    public static void main(String[] args) {
        moons();
        settings();
        fadings();
        tools();
        sights();
        rights();
        texts();
        guesses();
        saying();
        fits();
        lefts();
        seasonsAndWorths();
        bests();
        foretold();
        parts();
        rhythms();
        aparts();
        sending();
        holding();
        watching();
        fullOfSights();
        fullOfTables();
        fullOfText();
        fullOfRows();
        withoutTables();
        withNothing();
        CHECK.end();
    }

    private static void no(String call, int code, ToLongFunction<LateMoons> made) {
        compare(call, code, 0, made);
    }

    private static void noLong(String call, int code, ToLongFunction<LateMoons> made) {
        compare(call, code, Check.LONG, made);
    }

    /** Held against a world in which there was no such call. */
    private static void compare(String call, int code, long refusals, ToLongFunction<LateMoons> made) {
        LateMoons x = world.get();
        StringBuilder counted = new StringBuilder();
        for (int what = 11; what <= 16; what++) {
            counted.append(x.count(what) + (what == 10 - code ? 1 : 0)).append(' ');
        }
        CHECK.due(call, made.applyAsLong(x), refusals + code);
        CHECK.same("refusals after " + call, Look.refusals(x), counted.toString());
        String before = UNTOUCHED.computeIfAbsent(world, Look::atAll);
        Supplier<LateMoons> refused = world;
        CHECK.same("all else after " + call, Look.atAll(() -> {
            LateMoons y = refused.get();
            made.applyAsLong(y);
            return y;
        }), before);
    }

    private static void moons() {
        no("moon(4)", -1, x -> x.moon(4, -1, 1000000, -1, 10000));
        no("moon(-1)", -1, x -> x.moon(-1, 1000000, 999, 100, -1));
        for (int m = 0; m <= 3; m += 3) {
            int i = m;
            no("moon(first below)", -4, x -> x.moon(i, -1, 1000000, 100, 10000));
            no("moon(first above)", -6, x -> x.moon(i, 1000000, 999, -1, -1));
            no("moon(period below)", -4, x -> x.moon(i, 1, 999, 100, 10000));
            no("moon(period above)", -6, x -> x.moon(i, 1, 1000000, -1, -1));
            no("moon(out below)", -4, x -> x.moon(i, 1, 5000, -1, 10000));
            no("moon(out above)", -6, x -> x.moon(i, 1, 5000, 100, -1));
            no("moon(length below)", -4, x -> x.moon(i, 1, 5000, 1, -1));
            no("moon(length above)", -6, x -> x.moon(i, 1, 5000, 1, 10000));
        }
        for (int n = -10; n <= 10; n += 10) {
            int pull = n;
            compare("pull(4)", -1, -100, x -> x.pull(4, 0, pull));
            compare("pull(-1)", -1, -100, x -> x.pull(-1, 0, pull));
            compare("pull(3)", -1, -100, x -> x.pull(3, 0, pull));
            compare("pull by 4", -1, -100, x -> x.pull(0, 4, pull));
            compare("pull by -1", -1, -100, x -> x.pull(0, -1, pull));
            compare("pull by 3", -1, -100, x -> x.pull(0, 3, pull));
            compare("pull by itself", -1, -100, x -> x.pull(1, 1, pull));
        }
        compare("pull(below)", -4, -100, x -> x.pull(0, 1, -10));
        compare("pull(above)", -6, -100, x -> x.pull(0, 1, 10));
    }

    private static void settings() {
        int[] least = {0, 1000, 1, 0, 0};
        int[] greatest = {2000, 99999999, 60, 9999, 999};
        for (int i = 0; i <= 4; i++) {
            int what = i;
            no("set(" + i + ", below)", -4, x -> x.set(what, least[what] - 1));
            no("set(" + i + ", above)", -6, x -> x.set(what, greatest[what] + 1));
        }
        no("set(5)", -2, x -> x.set(5, LEAST));
        no("set(-1)", -2, x -> x.set(-1, MOST));
    }

    private static void fadings() {
        noLong("fading(3)", -1, x -> x.fading(3, -1, true));
        noLong("fading(4)", -1, x -> x.fading(4, 1000, false));
        noLong("fading(-1)", -1, x -> x.fading(-1, 1000, false));
        noLong("fading(k below)", -4, x -> x.fading(0, -1, true));
        noLong("fading(k above)", -6, x -> x.fading(0, 1000, false));
        no("far(below)", -4, x -> x.far(-1));
        no("far(above)", -6, x -> x.far(2000000000));
    }

    private static void tools() {
        int[] last = {5, 3, 3, 3};
        int[] least = {-99, -99, 0, -43200};
        int[] greatest = {99, 99, 999999999, 43200};
        for (int i = 0; i <= 3; i++) {
            int what = i;
            no("tool(" + i + ", nobody)", -1, x -> x.tool(what, last[what] + 1, LEAST));
            no("tool(" + i + ", nobody)", -1, x -> x.tool(what, -1, MOST));
            no("tool(" + i + ", below)", -4, x -> x.tool(what, last[what], least[what] - 1));
            no("tool(" + i + ", above)", -6, x -> x.tool(what, 0, greatest[what] + 1));
        }
        no("tool(4)", -2, x -> x.tool(4, 9, LEAST));
        no("tool(-1)", -2, x -> x.tool(-1, -1, MOST));
    }

    private static void sights() {
        no("sight(3)", -1, x -> x.sight(3, -1, 8600, -1));
        no("sight(4)", -1, x -> x.sight(4, 1000, -1, MOST));
        no("sight(-1)", -1, x -> x.sight(-1, 1000, -1, MOST));
        no("sight(kind above)", -2, x -> x.sight(0, -1, 8644, -1));
        no("sight(kind below)", -2, x -> x.sight(0, 1000, -1, MOST));
        no("sight(eye)", -1, x -> x.sight(0, -1, 600, -1));
        no("sight(clock)", -1, x -> x.sight(0, 1000, 7540, MOST));
        no("sight(town)", -1, x -> x.sight(0, -1, 7534, MOST));
        no("sight(k below)", -4, x -> x.sight(0, -1, 0, MOST));
        no("sight(second below)", -4, x -> x.sight(0, 1000, 0, -1));
        no("sight(k above)", -6, x -> x.sight(0, 1000, 0, 1));
        no("sight(second above)", -6, x -> x.sight(0, 1, 0, 2000000000));
        no("takeBack of one sent", -3, x -> x.send(13, 1, 4) + 9 + x.takeBack() + x.send(13, 1, -1) - 4);
    }

    private static void rights() {
        noLong("right(14)", -1, x -> x.right(14));
        noLong("right(-1)", -1, x -> x.right(-1));
        noLong("right(clouded)", -3, x -> x.right(9));
    }

    private static void texts() {
        no("feed(none)", -4, x -> x.feed(0, 'e'));
        no("feed(fewer)", -4, x -> x.feed(LEAST, 'e'));
        no("feed(nine)", -6, x -> x.feed(9, 'e'));
        no("feed(many)", -6, x -> x.feed(MOST, 'e'));
    }

    private static void guesses() {
        no("guess(4)", -1, x -> x.guess(4, -1, 1000000));
        no("guess(-1)", -1, x -> x.guess(-1, 1000000, 999));
        for (int m = 0; m <= 3; m += 3) {
            int i = m;
            no("guess(first below)", -4, x -> x.guess(i, -1, 1000000));
            no("guess(period below)", -4, x -> x.guess(i, 1000000, 999));
            no("guess(first above)", -6, x -> x.guess(i, 1000000, 1000));
            no("guess(period above)", -6, x -> x.guess(i, 1, 1000000));
        }
    }

    private static void saying() {
        noLong("says(3)", -1, x -> x.says(3, 0, -1, -1));
        noLong("says(-1)", -1, x -> x.says(-1, 0, 1000, 343));
        noLong("says(moon 3)", -1, x -> x.says(0, 3, -1, -1));
        noLong("says(moon 4)", -1, x -> x.says(0, 4, 1000, 7));
        noLong("says(k below)", -4, x -> x.says(0, 0, -1, 7));
        noLong("says(k above)", -6, x -> x.says(0, 0, 1000, -1));
        int[] numbers = {7, 49, 343};
        for (int i = 0; i <= 2; i++) {
            int t = i;
            noLong("says(numbers below)", -4, x -> x.says(t, 0, 1, -1));
            noLong("says(numbers above)", -6, x -> x.says(t, 0, 1, numbers[t]));
        }
    }

    private static void fits() {
        noLong("fit(3)", -1, x -> x.fit(3, 0, -1, 3));
        noLong("fit(-1)", -1, x -> x.fit(-1, 0, MANY, -1));
        noLong("fit(moon 3)", -1, x -> x.fit(0, 3, -1, 3));
        noLong("fit(moon -1)", -1, x -> x.fit(0, -1, -1, 3));
        noLong("fit(what 3)", -2, x -> x.fit(0, 0, -1, 3));
        noLong("fit(what -1)", -2, x -> x.fit(0, 0, MANY, -1));
        for (int i = 0; i <= 2; i++) {
            int what = i;
            noLong("fit(set below)", -4, x -> x.fit(0, 0, -1, what));
            noLong("fit(set above)", -6, x -> x.fit(0, 0, MANY, what));
        }
    }

    private static void lefts() {
        noLong("left(3)", -1, x -> x.left(3, 9, -1));
        noLong("left(-1)", -1, x -> x.left(-1, 9, MANY));
        noLong("left(sight 14)", -1, x -> x.left(0, 14, -1));
        noLong("left(sight -1)", -1, x -> x.left(0, -1, MANY));
        noLong("left(clouded)", -3, x -> x.left(0, 9, -1));
        noLong("left(clouded)", -3, x -> x.left(0, 9, MANY));
        noLong("left(set below)", -4, x -> x.left(0, 0, -1));
        noLong("left(set above)", -6, x -> x.left(0, 0, MANY));
    }

    private static void seasonsAndWorths() {
        noLong("season(3)", -1, x -> x.season(3, 0, -1));
        noLong("season(-1)", -1, x -> x.season(-1, 0, MANY));
        noLong("season(moon 3)", -1, x -> x.season(0, 3, -1));
        noLong("season(moon 4)", -1, x -> x.season(0, 4, MANY));
        noLong("season(set below)", -4, x -> x.season(0, 0, -1));
        noLong("season(set above)", -6, x -> x.season(0, 0, MANY));
        noLong("worth(3)", -1, x -> x.worth(3, 0, 0, -1));
        noLong("worth(-1)", -1, x -> x.worth(-1, 0, 0, MANY));
        for (int i = 0; i <= 2; i++) {
            int t = i;
            noLong("worth(term " + (i + 1) + ")", -1, x -> x.worth(t, t + 1, 0, -1));
            noLong("worth(term -1)", -1, x -> x.worth(t, -1, 0, MANY));
        }
        noLong("worth(moon 3)", -1, x -> x.worth(0, 0, 3, -1));
        noLong("worth(moon 4)", -1, x -> x.worth(0, 0, 4, MANY));
        noLong("worth(set below)", -4, x -> x.worth(0, 0, 0, -1));
        noLong("worth(set above)", -6, x -> x.worth(0, 0, 0, MANY));
    }

    private static void bests() {
        no("best(3)", -1, x -> x.best(3, -1));
        no("best(-1)", -1, x -> x.best(-1, MANY));
        no("best(set below)", -4, x -> x.best(0, -1));
        no("best(set above)", -6, x -> x.best(0, MANY));
        no("allMoons without l", -1, x -> x.allMoons(0));
        no("allMoons(3)", -1, x -> x.allMoons(3));
        no("allMoons(-1)", -1, x -> x.allMoons(-1));
    }

    private static void foretold() {
        for (boolean err : new boolean[] {false, true}) {
            noLong("foretold(3)", -1, x -> x.foretold(3, 0, -1, -1, err));
            noLong("foretold(-1)", -1, x -> x.foretold(-1, 0, 1000, MANY, err));
            noLong("foretold(moon 3)", -1, x -> x.foretold(0, 3, -1, -1, err));
            noLong("foretold(moon -1)", -1, x -> x.foretold(0, -1, 1000, MANY, err));
            noLong("foretold(k below)", -4, x -> x.foretold(0, 0, -1, MANY, err));
            noLong("foretold(k above)", -6, x -> x.foretold(0, 0, 1000, -1, err));
            noLong("foretold(set below)", -4, x -> x.foretold(0, 0, 1, -1, err));
            noLong("foretold(set above)", -6, x -> x.foretold(0, 0, 1, MANY, err));
        }
    }

    private static void parts() {
        no("parts(3)", -1, x -> x.parts(3, 0, 0, -1, 1000));
        no("parts(-1)", -1, x -> x.parts(-1, 0, 0, 1000, -1));
        no("parts(and 3)", -1, x -> x.parts(0, 3, 0, -1, 1000));
        no("parts(and -1)", -1, x -> x.parts(0, -1, 0, 5, 4));
        no("parts(moon 3)", -1, x -> x.parts(0, 1, 3, -1, 1000));
        no("parts(moon 4)", -1, x -> x.parts(0, 1, 4, 5, 4));
        no("parts(a below)", -4, x -> x.parts(0, 1, 0, -1, 1000));
        no("parts(b below)", -4, x -> x.parts(0, 1, 0, 1000, -1));
        no("parts(a above)", -6, x -> x.parts(0, 1, 0, 1000, 1));
        no("parts(b above)", -6, x -> x.parts(0, 1, 0, 1, 1000));
        no("parts(b below a)", -3, x -> x.parts(0, 1, 0, 5, 4));
    }

    private static void rhythms() {
        int[] nobody = {3, 4, -1};
        for (int m : nobody) {
            no("rhythm(" + m + ", 0, 1)", -1, x -> x.rhythm(m, 0, 1));
            no("rhythm(0, " + m + ", 1)", -1, x -> x.rhythm(0, m, 1));
            no("rhythm(0, 1, " + m + ")", -1, x -> x.rhythm(0, 1, m));
        }
        no("rhythm(0, 0, 1)", -1, x -> x.rhythm(0, 0, 1));
        no("rhythm(0, 1, 0)", -1, x -> x.rhythm(0, 1, 0));
        no("rhythm(1, 0, 0)", -1, x -> x.rhythm(1, 0, 0));
    }

    private static void aparts() {
        noLong("apart(what 4)", -2, x -> x.apart(9, 9, 4));
        noLong("apart(what -1)", -2, x -> x.apart(-1, -1, -1));
        for (int i = 0; i <= 3; i++) {
            int what = i;
            int last = i < 2 ? 3 : 5;
            noLong("apart(nobody)", -1, x -> x.apart(last + 1, 0, what));
            noLong("apart(nobody)", -1, x -> x.apart(-1, 0, what));
            noLong("apart(and nobody)", -1, x -> x.apart(0, last + 1, what));
            noLong("apart(and nobody)", -1, x -> x.apart(0, -1, what));
            noLong("apart(one twice)", -1, x -> x.apart(last, last, what));
        }
        noLong("apart(no pair of eyes)", -3, x -> x.apart(4, 5, 2));
        noLong("apart(no pair of eyes)", -3, x -> x.apart(4, 5, 3));
    }

    private static void sending() {
        no("send(14)", -1, x -> x.send(14, 0, -2));
        no("send(-1)", -1, x -> x.send(-1, 0, 1000));
        no("send(to 4)", -1, x -> x.send(0, 4, -2));
        no("send(to -1)", -1, x -> x.send(0, -1, 1000));
        no("send(day below)", -4, x -> x.send(0, 0, -2));
        no("send(day above)", -6, x -> x.send(0, 0, 1000));
    }

    private static void holding() {
        noLong("has(4)", -1, x -> x.has(4, -1));
        noLong("has(-1)", -1, x -> x.has(-1, 1000));
        noLong("has(day below)", -4, x -> x.has(0, -1));
        noLong("has(day above)", -6, x -> x.has(0, 1000));
        no("believes(4)", -1, x -> x.believes(4, -1, 0));
        no("believes(-1)", -1, x -> x.believes(-1, 1000, 0));
        no("believes(moon 3)", -1, x -> x.believes(0, -1, 3));
        no("believes(moon 4)", -1, x -> x.believes(0, 1000, 4));
        no("believes(day below)", -4, x -> x.believes(0, -1, 0));
        no("believes(day above)", -6, x -> x.believes(0, 1000, 0));
        noLong("turn(4)", -1, x -> x.turn(4, -1, 0));
        noLong("turn(-1)", -1, x -> x.turn(-1, 1000, 0));
        noLong("turn(moon 3)", -1, x -> x.turn(0, -1, 3));
        noLong("turn(moon 4)", -1, x -> x.turn(0, 1000, 4));
        noLong("turn(day below)", -4, x -> x.turn(0, -1, 0));
        noLong("turn(day above)", -6, x -> x.turn(0, 1000, 0));
    }

    private static void watching() {
        no("watch(3)", -1, x -> x.watch(3, -1, 1000, 0));
        no("watch(-1)", -1, x -> x.watch(-1, 1000, -1, 5));
        no("watch(n below)", -4, x -> x.watch(0, 1000, 0, 0));
        no("watch(a below)", -4, x -> x.watch(0, -1, 1000, 5));
        no("watch(b below)", -4, x -> x.watch(0, 1000, -1, 5));
        no("watch(n above)", -6, x -> x.watch(0, 5, 4, 5));
        no("watch(a above)", -6, x -> x.watch(0, 1000, 4, 1));
        no("watch(b above)", -6, x -> x.watch(0, 999, 1000, 4));
        no("watch(thirteen)", -6, x -> x.watch(0, 0, 12, 1));
        no("watch(b below a)", -3, x -> x.watch(0, 5, 4, 1));
        no("watch(too few)", -3, x -> x.watch(0, 5, 6, 3));
    }

    private static void fullOfSights() {
        world = () -> {
            LateMoons x = Look.rich();
            for (int i = x.count(1); i < 40; i++) {
                x.sight(0, i % 7, 0, 1000 * i);
            }
            return x;
        };
        no("a sight of kind 8", -2, x -> x.sight(0, -1, 8600, -1));
        no("a sight below", -4, x -> x.sight(0, 1, 0, -1));
        no("a sight more", -6, x -> x.sight(0, 1, 0, 1));
        noLong("right(40)", -1, x -> x.right(40));
        noLong("the set of a forty-first", -6, x -> x.fit(0, 0, 1L << 40, 0));
    }

    private static void fullOfTables() {
        world = () -> {
            LateMoons x = Look.rich();
            x.table();
            for (int i = x.count(3); i < 8; i++) {
                Check.table(x, "p3+e");
            }
            Check.feed(x, "o+p1");
            return x;
        };
        no("a ninth table", -6, LateMoons::table);
        noLong("says(8)", -1, x -> x.says(8, 0, 1, 0));
    }

    private static void fullOfText() {
        world = () -> {
            LateMoons x = Look.rich();
            Check.feed(x, "+p1xyzxyzxyzxyzx");
            return x;
        };
        CHECK.due("twenty bytes", world.get().count(5), 20);
        no("none more", -4, x -> x.feed(0, 'e'));
        no("a byte more", -6, x -> x.feed(1, 'e'));
        no("eight more", -6, x -> x.feed(8, 'e'));
    }

    private static void fullOfRows() {
        world = () -> {
            LateMoons x = Look.rich();
            for (int i = x.count(4); i < 80; i++) {
                x.put(i % 8 == 0 ? 1 : 0);
            }
            return x;
        };
        CHECK.due("eighty ints", world.get().count(4), 80);
        no("an int more", -6, x -> x.put(1));
    }

    private static void withoutTables() {
        world = () -> {
            LateMoons x = new LateMoons();
            x.moon(0, 0, 1000, 0, 0);
            x.sight(0, 1, 0, 1000);
            x.send(0, 2, 7);
            Check.feed(x, "l");
            return x;
        };
        no("best of a moon not there", -1, x -> x.best(1, -1));
        no("best of no tables", -3, x -> x.best(0, -1));
        no("best of no tables", -3, x -> x.best(0, 2));
        no("believes of no holder", -1, x -> x.believes(4, -1, 0));
        no("believes of no tables", -3, x -> x.believes(0, -1, 0));
        no("believes of no tables", -3, x -> x.believes(0, 1000, 0));
        noLong("turn of no moon", -1, x -> x.turn(0, -1, 1));
        noLong("turn of no tables", -3, x -> x.turn(0, -1, 0));
        noLong("turn of no tables", -3, x -> x.turn(0, 1000, 0));
        no("allMoons of no table", -1, x -> x.allMoons(0));
        no("takeBack of one sent", -3, LateMoons::takeBack);
        no("no image", -3, LateMoons::restore);
        noLong("no pair of towns", -3, x -> x.apart(0, 1, 0));
        noLong("no pair of towns", -3, x -> x.apart(0, 1, 1));
    }

    private static void withNothing() {
        world = LateMoons::new;
        no("no sight", -3, LateMoons::takeBack);
        no("no image", -3, LateMoons::restore);
        no("no moon", -1, x -> x.sight(0, 0, 0, 0));
        noLong("no sight", -1, x -> x.right(0));
        no("no sight", -1, x -> x.send(0, 0, 0));
        noLong("no table", -1, x -> x.says(0, 0, 0, 0));
        noLong("no moon", -1, x -> x.fading(0, 0, false));
        no("no moons", -1, x -> x.rhythm(0, 1, 2));
    }
}
