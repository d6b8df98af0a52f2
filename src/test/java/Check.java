import java.util.function.IntToLongFunction;
import java.util.function.Supplier;

/** Counts and prints the answers that are not as due. */
final class Check {
    /** Refusals of calls that answer in long are so much less. */
    static final long LONG = -4000000000000000000L;

    private int made;
    private int wrong;

    /** A call of which one number is looked at. */
    interface Call {
        long on(LateMoons x, int n);
    }

    void due(String what, long got, long want) {
        made++;
        if (got != want) {
            wrong++;
            System.out.println(what + " answered " + got + ", due is " + want);
        }
    }

    void same(String what, String got, String want) {
        made++;
        if (!got.equals(want)) {
            wrong++;
            System.out.println(what + ":\n  is     " + got + "\n  due is " + want);
        }
    }

    void end() {
        System.out.println(made + " answers, " + wrong + " not as due");
        if (wrong != 0 || made == 0) {
            System.exit(1);
        }
    }

    /** A number from the least to the greatest: -4 below, -6 above; each try has a world of its own. */
    void range(String what, Supplier<LateMoons> world, Call call, int least, int greatest, long refusals,
            IntToLongFunction due) {
        taken(what, world, call, least, due.applyAsLong(least));
        taken(what, world, call, greatest, due.applyAsLong(greatest));
        refused(what, world, call, least - 1, -4, refusals);
        refused(what, world, call, Integer.MIN_VALUE, -4, refusals);
        refused(what, world, call, greatest + 1, -6, refusals);
        refused(what, world, call, Integer.MAX_VALUE, -6, refusals);
    }

    /** Something with a number from 0 to the last: on either side the code, -1 NOBODY or -2 OTHER. */
    void among(String what, Supplier<LateMoons> world, Call call, int last, int code, long refusals,
            IntToLongFunction due) {
        for (int n = 0; n <= last; n++) {
            taken(what, world, call, n, due.applyAsLong(n));
        }
        for (int n : new int[] {-1, Integer.MIN_VALUE, last + 1, Integer.MAX_VALUE}) {
            refused(what, world, call, n, code, refusals);
        }
    }

    private void taken(String what, Supplier<LateMoons> world, Call call, int n, long due) {
        LateMoons x = world.get();
        String before = Look.refusals(x);
        due(what + " " + n, call.on(x, n), due);
        same(what + " " + n + " is no refusal", Look.refusals(x), before);
    }

    private void refused(String what, Supplier<LateMoons> world, Call call, int n, int code, long refusals) {
        LateMoons x = world.get();
        int before = x.count(10 - code);
        due(what + " " + n, call.on(x, n), refusals + code);
        due(what + " " + n + " is counted", x.count(10 - code), before + 1);
    }

    /** A refusal of a call that answers in long. */
    static long no(int code) {
        return LONG + code;
    }

    /** Feeds a text, eight bytes at a time: how many bytes the last call told. */
    static int feed(LateMoons x, String text) {
        int told = 0;
        for (int at = 0; at < text.length(); at += 8) {
            int n = Math.min(8, text.length() - at);
            long bytes = 0;
            for (int i = 0; i < n; i++) {
                bytes |= (text.charAt(at + i) & 255L) << (8 * i);
            }
            told = x.feed(n, bytes);
        }
        return told;
    }

    static int table(LateMoons x, String text) {
        feed(x, text);
        return x.table();
    }

    static void putAll(LateMoons x, int... numbers) {
        for (int n : numbers) {
            x.put(n);
        }
    }

    /** Moon 0, which fades and is guessed at k times 1000, with tables. */
    static LateMoons with(String... texts) {
        LateMoons x = new LateMoons();
        x.moon(0, 0, 1000, 0, 0);
        for (String text : texts) {
            table(x, text);
        }
        return x;
    }

    /** A sight of moon 0 that is off its guess by so much. */
    static void off(LateMoons x, int k, int by) {
        x.sight(0, k, 0, 1000 * k + by);
    }

    static void offs(LateMoons x, int times, int k, int by) {
        for (int i = 0; i < times; i++) {
            off(x, k, by);
        }
    }

    /** All sights that there are, as bits. */
    static long all(LateMoons x) {
        return (1L << x.count(1)) - 1;
    }
}
