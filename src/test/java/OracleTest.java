import java.util.Random;

/** Runs of drawn calls, always the same ones, on LateMoons and on the plain model: all answers are the same. */
public final class OracleTest {
    private static final int RUNS = 500;
    /** An object is good for 512 calls: the longest step and the counts at the end must have room after these. */
    private static final int CALLS = 450;
    private static final String[] TEXTS = {
        "e", "o", "l", "p0", "p1", "p2", "p3", "e+o", "o+e", "e+l", "l+e", "o+p1", "p2+l", "e+o+l", "l+o+e",
        "p0+p1+p2", "p3+e+l", "o+l+p2", "", "e+", "+e", "e+e", "p", "p4", "p0+p", "p0+p0", "el", "e+o+l+p0",
        "e+o+l+", "e+o+l+x", "e+o+ll", "x", "p00", "p1+p1x", "e+o+p1+p", "E", "e o", "e++o", "p0+e+p0"};

    private final Random random;
    private final int run;
    private final LateMoons real = new LateMoons();
    private final PlainMoons plain = new PlainMoons();
    private boolean fine = true;
    private int calls;

    private OracleTest(int run) {
        this.run = run;
        this.random = new Random(run);
    }

    public static void main(String[] args) {
        int wrong = 0;
        for (int run = 0; run < RUNS; run++) {
            OracleTest test = new OracleTest(run);
            test.play();
            wrong += test.fine ? 0 : 1;
        }
        System.out.println(RUNS + " runs, " + wrong + " with a wrong answer");
        if (wrong != 0) {
            System.exit(1);
        }
    }

    /** Stops at the first wrong answer: what comes after it tells nothing more. */
    private void play() {
        int moons = random.nextInt(5);
        for (int i = 0; i < moons; i++) {
            moon();
        }
        int tables = random.nextInt(4);
        for (int i = 0; i < tables; i++) {
            text();
            same("table()", real.table(), plain.table());
        }
        // some steps make no call at all
        for (int i = 0; i < 2 * CALLS && calls < CALLS && fine; i++) {
            step();
        }
        for (int what = -1; what <= 18 && fine; what++) {
            same("count(" + what + ")", real.count(what), plain.count(what));
        }
    }

    private void same(String call, long got, long want) {
        calls++;
        if (got != want) {
            System.out.println("run " + run + ": " + call + " answered " + got + ", due is " + want);
            fine = false;
        }
    }

    private int upTo(int least, int greatest) {
        return least + random.nextInt(greatest - least + 1);
    }

    /** Mostly a number of the range, at times its edges, what is just beyond them, or anything. */
    private int about(int least, int greatest) {
        switch (random.nextInt(80)) {
            case 0:
                return least - 1;
            case 1:
                return greatest + 1;
            case 2:
                return random.nextInt();
            case 3:
                return random.nextBoolean() ? Integer.MIN_VALUE : Integer.MAX_VALUE;
            case 4:
            case 5:
                return least;
            case 6:
            case 7:
                return greatest;
            default:
                return upTo(least, greatest);
        }
    }

    private int after(int a, int most) {
        return a >= 0 && a <= 999 ? about(a, a + most) : about(0, 999);
    }

    private int aMoon() {
        int m = about(0, 3);
        return plain.peek(m, 0) < 0 ? about(0, 3) : m;
    }

    private int aSight() {
        return about(0, Math.max(0, plain.count(1) - 1));
    }

    private int aTable() {
        return about(0, Math.max(0, plain.count(3) - 1));
    }

    private int aFading() {
        return about(0, random.nextInt(4) == 0 ? 999 : 12);
    }

    private long aSet() {
        long all = (1L << plain.count(1)) - 1;
        switch (random.nextInt(30)) {
            case 0:
                return random.nextLong();
            case 1:
                return all + 1;
            case 2:
                return -1L;
            case 3:
                return 0L;
            case 4:
            case 5:
            case 6:
                return random.nextLong() & random.nextLong() & all;
            case 7:
            case 8:
            case 9:
            case 10:
                return random.nextLong() & all;
            default:
                return all;
        }
    }

    private void moon() {
        int m = about(0, 3);
        int first = about(0, random.nextBoolean() ? 20000 : 999999);
        int period = about(1000, random.nextBoolean() ? 9000 : 999999);
        int out = about(0, 99);
        int length = about(0, 9999);
        same("moon(" + m + ", " + first + ", " + period + ", " + out + ", " + length + ")",
            real.moon(m, first, period, out, length), plain.moon(m, first, period, out, length));
        if (random.nextInt(5) > 0) {
            guess(m, (int) (first + (long) upTo(-30, 30)), period);
        }
    }

    private void guess(int m, int first, int period) {
        same("guess(" + m + ", " + first + ", " + period + ")",
            real.guess(m, first, period), plain.guess(m, first, period));
    }

    /** Near to what is truly seen, or the fits would have nothing to choose. */
    private int aSecond(int m, int k) {
        long seen = plain.peek(m, k);
        return seen < 0 || random.nextInt(12) == 0
            ? about(0, 1999999999) : (int) Math.max(0, seen + upTo(-150, 150));
    }

    private void sight() {
        int m = aMoon();
        int k = aFading();
        int told = random.nextInt(20) == 0 ? about(0, 7999)
            : 1000 * upTo(0, 7) + 100 * upTo(0, 5) + 10 * upTo(0, 3) + upTo(0, 3);
        int second = aSecond(m, k);
        same("sight(" + m + ", " + k + ", " + told + ", " + second + ")",
            real.sight(m, k, told, second), plain.sight(m, k, told, second));
    }

    private void book() {
        int[] most = {3, 20, 7, 5, 3, 3, 19999, 99999};
        int rows = upTo(0, 3);
        for (int r = 0; r < rows && fine; r++) {
            int m = aMoon();
            int k = aFading();
            int second = aSecond(m, k);
            int broken = random.nextInt(20);
            int[] row = {m, k, upTo(0, 7), upTo(0, 5), upTo(0, 3), upTo(0, 3), second / 100000, second % 100000};
            for (int i = 0; i < 8; i++) {
                int v = i == broken ? about(0, most[i]) : row[i];
                same("put(" + v + ")", real.put(v), plain.put(v));
            }
        }
        if (random.nextInt(4) == 0) {
            int v = random.nextInt(4);
            same("put(" + v + ")", real.put(v), plain.put(v));
        }
        if (random.nextInt(5) > 0) {
            same("read()", real.read(), plain.read());
        }
    }

    private void text() {
        String text = TEXTS[random.nextInt(TEXTS.length)];
        if (random.nextInt(3) > 0) {
            text = TEXTS[random.nextInt(18)];
        }
        for (int at = 0; at < text.length(); at += 8) {
            int n = Math.min(8, text.length() - at);
            long bytes = n < 8 ? random.nextLong() << (8 * n) : 0;
            for (int i = 0; i < n; i++) {
                bytes |= (long) text.charAt(at + i) << (8 * i);
            }
            same("feed(" + n + ", " + bytes + ")", real.feed(n, bytes), plain.feed(n, bytes));
        }
    }

    private void step() {
        int draw = random.nextInt(100);
        if (draw < 12) {
            sight();
        } else if (draw < 14) {
            book();
        } else if (draw < 17) {
            if (random.nextInt(4) > 0) text();
            same("table()", real.table(), plain.table());
        } else if (draw < 40) {
            tell();
        } else if (draw < 45) {
            keep();
        } else if (draw < 75) {
            askTables();
        } else {
            askOthers();
        }
    }

    private void tell() {
        int what = about(0, 4);
        int m = aMoon();
        switch (random.nextInt(8)) {
            case 0:
                if (random.nextInt(4) == 0) moon();
                return;
            case 1:
                int by = aMoon();
                int n = about(-9, 9);
                same("pull(" + m + ", " + by + ", " + n + ")", real.pull(m, by, n), plain.pull(m, by, n));
                return;
            case 2:
                int v = what == 0 ? about(0, 2000) : what == 1 ? about(1000, random.nextBoolean() ? 90000 : 99999999)
                    : what == 2 ? about(1, 60) : what == 3 ? about(0, random.nextInt(3) == 0 ? 9999 : 90)
                    : about(0, 999);
                same("set(" + what + ", " + v + ")", real.set(what, v), plain.set(what, v));
                return;
            case 3:
                int i = about(0, what == 0 ? 5 : 3);
                int by0 = what == 2 ? about(0, 999999999) : what == 3 ? about(-43200, 43200) : about(-99, 99);
                same("tool(" + what + ", " + i + ", " + by0 + ")", real.tool(what, i, by0), plain.tool(what, i, by0));
                return;
            case 4:
                int s = aSight();
                int h = about(0, 3);
                int day = about(-1, random.nextBoolean() ? 5 : 999);
                same("send(" + s + ", " + h + ", " + day + ")", real.send(s, h, day), plain.send(s, h, day));
                return;
            case 5:
                if (random.nextInt(3) == 0) same("takeBack()", real.takeBack(), plain.takeBack());
                return;
            case 6:
                if (random.nextInt(3) == 0) guess(about(0, 3), about(0, 999999), about(1000, 999999));
                return;
            default:
                int size = about(1, 8);
                long bytes = random.nextLong();
                if (random.nextInt(6) == 0) {
                    same("feed(" + size + ", " + bytes + ")", real.feed(size, bytes), plain.feed(size, bytes));
                }
        }
    }

    private void keep() {
        int draw = random.nextInt(12);
        if (draw == 0) {
            same("image()", real.image(), plain.image());
        } else if (draw == 1) {
            same("restore()", real.restore(), plain.restore());
        } else {
            int what = about(0, 16);
            same("count(" + what + ")", real.count(what), plain.count(what));
        }
    }

    private void askTables() {
        int t = aTable();
        int m = aMoon();
        int k = aFading();
        long set = aSet();
        String rest = m + ", " + set + ")";
        switch (random.nextInt(8)) {
            case 0:
                int numbers = about(0, 342);
                numbers = random.nextBoolean() ? numbers % 7 : numbers;
                same("says(" + t + ", " + m + ", " + k + ", " + numbers + ")",
                    real.says(t, m, k, numbers), plain.says(t, m, k, numbers));
                return;
            case 1:
                int what = about(0, 2);
                same("fit(" + t + ", " + m + ", " + set + ", " + what + ")",
                    real.fit(t, m, set, what), plain.fit(t, m, set, what));
                return;
            case 2:
                int s = aSight();
                same("left(" + t + ", " + s + ", " + set + ")", real.left(t, s, set), plain.left(t, s, set));
                return;
            case 3:
                same("season(" + t + ", " + rest, real.season(t, m, set), plain.season(t, m, set));
                return;
            case 4:
                int term = about(0, 2);
                same("worth(" + t + ", " + term + ", " + rest, real.worth(t, term, m, set), plain.worth(t, term, m, set));
                return;
            case 5:
                same("best(" + rest, real.best(m, set), plain.best(m, set));
                return;
            case 6:
                same("allMoons(" + t + ")", real.allMoons(t), plain.allMoons(t));
                return;
            default:
                boolean err = random.nextBoolean();
                same("foretold(" + t + ", " + m + ", " + k + ", " + set + ", " + err + ")",
                    real.foretold(t, m, k, set, err), plain.foretold(t, m, k, set, err));
        }
    }

    private void askOthers() {
        int m = aMoon();
        int k = aFading();
        int h = about(0, 3);
        int day = about(0, random.nextBoolean() ? 5 : 999);
        int draw = random.nextInt(24);
        if (draw < 2) {
            boolean seen = random.nextBoolean();
            same("fading(" + m + ", " + k + ", " + seen + ")", real.fading(m, k, seen), plain.fading(m, k, seen));
        } else if (draw < 4) {
            int t = about(0, 1999999999);
            same("far(" + t + ")", real.far(t), plain.far(t));
        } else if (draw < 7) {
            int s = aSight();
            same("right(" + s + ")", real.right(s), plain.right(s));
        } else if (draw < 9) {
            askParts(m);
        } else if (draw < 11) {
            int y = aMoon();
            int z = aMoon();
            same("rhythm(" + m + ", " + y + ", " + z + ")", real.rhythm(m, y, z), plain.rhythm(m, y, z));
        } else if (draw < 16) {
            int what = about(0, 3);
            int a = about(0, what < 2 ? 3 : 5);
            int b = about(0, what < 2 ? 3 : 5);
            same("apart(" + a + ", " + b + ", " + what + ")", real.apart(a, b, what), plain.apart(a, b, what));
        } else if (draw < 18) {
            same("has(" + h + ", " + day + ")", real.has(h, day), plain.has(h, day));
        } else if (draw < 20) {
            same("believes(" + h + ", " + day + ", " + m + ")", real.believes(h, day, m), plain.believes(h, day, m));
        } else if (draw < 22) {
            same("turn(" + h + ", " + day + ", " + m + ")", real.turn(h, day, m), plain.turn(h, day, m));
        } else {
            int a = about(0, 999);
            int b = after(a, 12);
            int n = about(1, 4);
            same("watch(" + m + ", " + a + ", " + b + ", " + n + ")", real.watch(m, a, b, n), plain.watch(m, a, b, n));
        }
    }

    private void askParts(int m) {
        int one = aTable();
        int two = aTable();
        int a = about(0, 999);
        int b = random.nextBoolean() ? about(0, 999) : after(a, 20);
        same("parts(" + one + ", " + two + ", " + m + ", " + a + ", " + b + ")",
            real.parts(one, two, m, a, b), plain.parts(one, two, m, a, b));
    }
}
