import java.util.function.Supplier;

/** A world with something of everything in it, and all that can be seen of a world, as a text. */
final class Look {
    private Look() {
    }

    /** Moon 3 is not there; every tool is used by a sight; there is an image, a text and some rows. */
    static LateMoons rich() {
        LateMoons x = new LateMoons();
        x.moon(0, 9990, 8000, 3, 120);
        x.moon(1, 200, 7000, 5, 30);
        x.moon(2, 5, 4000, 0, 7);
        x.pull(0, 1, 2);
        x.pull(1, 0, -3);
        x.pull(2, 0, 9);
        int[] settings = {300, 50000, 12, 40, 70};
        for (int what = 0; what < settings.length; what++) {
            x.set(what, settings[what]);
        }
        for (int i = 0; i < 4; i++) {
            x.tool(0, i, 3 * i - 4);
            x.tool(1, i, 20 * i + 5);
            x.tool(2, i, 7000000 * i + 90000);
            x.tool(3, i, 50 * i - 60);
        }
        x.tool(0, 4, 11);
        x.tool(0, 5, -13);
        for (int m = 0; m < 4; m++) {
            x.guess(m, 10000 - 3000 * m, 8000 - 1000 * m);
        }
        for (int i = 0; i < 4; i++) {
            x.sight(i % 3, i, 6000 + 100 * i + 10 * i + i, 20000 + 8000 * i);
            x.sight(0, i, 7000 + 100 * i + i, 10000 + 8000 * i);
        }
        x.sight(1, 2, 2430, 14230);
        x.sight(0, 3, 5500, 99);
        x.sight(0, 3, 4500, 34000);
        for (String text : new String[] {"e", "o+l", "l+e+p1"}) {
            Check.table(x, text);
        }
        for (int s = 0; s < 8; s++) {
            x.send(s, s % 4, 100 * s);
        }
        x.image();
        x.sight(2, 1, 3200, 4009);
        x.sight(0, 4, 6330, 42009);
        x.sight(1, 4, 7103, 28009);
        x.send(3, 0, 999);
        Check.putAll(x, 0, 5, 0, 0, 0, 0, 0, 9, 1);
        Check.feed(x, "o+p2");
        return x;
    }

    /**
     * All of a world, its image too, but for how many refusals there were. To look is to use it up, and an object is
     * good for 512 calls: so each view is of a world made anew.
     */
    static String atAll(Supplier<LateMoons> made) {
        LateMoons restored = made.get();
        StringBuilder b = new StringBuilder(atWorld(made));
        b.append(" image ").append(restored.restore());
        b.append(atWorld(() -> {
            LateMoons x = made.get();
            x.restore();
            return x;
        }));
        return b.toString();
    }

    /** All but the image. */
    static String atWorld(Supplier<LateMoons> made) {
        StringBuilder b = new StringBuilder();
        atMoonsAndTables(made.get(), b);
        atSights(made.get(), b);
        atTools(made.get(), b);
        return b.toString();
    }

    private static void atMoonsAndTables(LateMoons x, StringBuilder b) {
        b.append(" counts");
        for (int what = 0; what <= 6; what++) {
            add(b, x.count(what));
        }
        b.append(" text");
        add(b, x.table());
        b.append(" moons");
        for (int m = 0; m < 4; m++) {
            for (int k = 0; k < 4; k++) {
                add(b, x.fading(m, k, false));
            }
        }
        b.append(" settings");
        for (int what = 0; what <= 4; what++) {
            add(b, x.set(what, what == 1 ? 50000 : 7));
        }
        b.append(" pulls");
        for (int m = 0; m < 4; m++) {
            for (int by = 0; by < 4; by++) {
                add(b, x.pull(m, by, 0));
            }
        }
        b.append(" guesses");
        for (int m = 0; m < 4; m++) {
            add(b, x.moon(m, 1, 1000, 0, 0));
            add(b, x.says(0, m, 0, 3));
            add(b, x.says(0, m, 1, 3));
        }
        b.append(" tables");
        for (int t = 0; t < 8; t++) {
            add(b, x.says(t, 0, 1, 0));
            add(b, x.says(t, 0, 2, 6));
            add(b, x.says(t, 0, 1, 48));
            add(b, x.says(t, 0, 3, 342));
        }
    }

    private static void atSights(LateMoons x, StringBuilder b) {
        b.append(" rows");
        add(b, x.read());
        b.append(" sights");
        int sights = x.count(1);
        for (int s = 0; s < sights; s++) {
            add(b, x.right(s));
            add(b, x.left(0, s, 0));
        }
        b.append(" apart");
        for (int i = 0; i < 15; i++) {
            int a = new int[] {0, 0, 0, 1, 1, 2, 0, 1, 2, 3, 0, 1, 2, 3, 4}[i];
            int c = new int[] {1, 2, 3, 2, 3, 3, 4, 4, 4, 4, 5, 5, 5, 5, 5}[i];
            for (int what = i < 6 ? 0 : 2; what <= 3; what++) {
                add(b, x.apart(a, c, what));
            }
        }
        b.append(" post");
        for (int s = 0; s < sights; s++) {
            for (int h = 0; h < 4; h++) {
                add(b, x.send(s, h, -1));
            }
        }
    }

    /** By sights that are made for it; the latest ones make room for them. */
    private static void atTools(LateMoons x, StringBuilder b) {
        for (int i = 0; i < 24 && x.count(1) > 18; i++) {
            x.takeBack();
        }
        b.append(" eyes");
        for (int eye = 0; eye <= 5; eye++) {
            add(b, x.right(x.sight(0, 0, 100 * eye, 5000)));
        }
        b.append(" clocks and towns");
        for (int i = 0; i <= 3; i++) {
            add(b, x.right(x.sight(0, 0, 6000 + 10 * i, 0)));
            add(b, x.right(x.sight(0, 0, 6000 + 10 * i, 1999999999)));
            add(b, x.right(x.sight(0, 0, 7000 + i, 50000)));
        }
        b.append(" lengths");
        for (int m = 0; m <= 3; m++) {
            add(b, x.right(x.sight(m, 0, 2000, 20000)));
        }
    }

    private static void add(StringBuilder b, long answer) {
        b.append(' ').append(answer);
    }

    static String refusals(LateMoons x) {
        StringBuilder b = new StringBuilder();
        for (int what = 11; what <= 16; what++) {
            b.append(x.count(what)).append(' ');
        }
        return b.toString();
    }
}
