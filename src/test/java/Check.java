/** Counts and prints the answers that are not as due. */
final class Check {
    private int made;
    private int wrong;

    void due(String what, long got, long want) {
        made++;
        if (got != want) {
            wrong++;
            System.out.println(what + " answered " + got + ", due is " + want);
        }
    }

    void same(String what, String got, String want) {
        made++;
        if (!got.equals(want)) {
            wrong++;
            System.out.println(what + ":\n  is     " + got + "\n  due is " + want);
        }
    }

    void end() {
        System.out.println(made + " answers, " + wrong + " not as due");
        if (wrong != 0 || made == 0) {
            System.exit(1);
        }
    }

    /** A refusal of a call that answers in long. */
    static long no(int code) {
        return -4000000000000000000L + code;
    }

    /** Feeds a text, eight bytes at a time: how many bytes the last call told. */
    static int feed(LateMoons x, String text) {
        int told = 0;
        for (int at = 0; at < text.length(); at += 8) {
            int n = Math.min(8, text.length() - at);
            long bytes = 0;
            for (int i = 0; i < n; i++) {
                bytes |= (text.charAt(at + i) & 255L) << (8 * i);
            }
            told = x.feed(n, bytes);
        }
        return told;
    }

    static int table(LateMoons x, String text) {
        feed(x, text);
        return x.table();
    }

    static void putAll(LateMoons x, int... numbers) {
        for (int n : numbers) {
            x.put(n);
        }
    }

    /** Moon 0, which fades and is guessed at k times 1000, with tables. */
    static LateMoons with(String... texts) {
        LateMoons x = new LateMoons();
        x.moon(0, 0, 1000, 0, 0);
        for (String text : texts) {
            table(x, text);
        }
        return x;
    }

    /** A sight of moon 0 that is off its guess by so much. */
    static void off(LateMoons x, int k, int by) {
        x.sight(0, k, 0, 1000 * k + by);
    }
}
