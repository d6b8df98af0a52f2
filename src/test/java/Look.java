/** A world with something of everything in it, and all that can be seen of a world, as a text. */
final class Look {
    private Look() {
    }

    /** Moon 3 is not there; every tool is used by a sight; there is an image, a text and some rows. */
    static LateMoons rich() {
        LateMoons x = new LateMoons();
        x.moon(0, 9990, 8000, 3, 120);
        x.moon(1, 200, 7000, 5, 30);
        x.moon(2, 5, 4000, 0, 7);
        x.pull(0, 1, 2);
        x.pull(1, 0, -3);
        x.pull(2, 0, 9);
        int[] settings = {300, 50000, 12, 40, 70};
        for (int what = 0; what < settings.length; what++) {
            x.set(what, settings[what]);
        }
        for (int i = 0; i < 4; i++) {
            x.tool(0, i, 3 * i - 4);
            x.tool(1, i, 20 * i + 5);
            x.tool(2, i, 100 * i);
            x.tool(3, i, 50 * i - 60);
        }
        x.tool(0, 4, 11);
        x.tool(0, 5, -13);
        for (int m = 0; m < 3; m++) {
            x.guess(m, 10000 - 4000 * m, 8000 - 1000 * m);
        }
        for (int i = 0; i < 4; i++) {
            x.sight(i % 3, i, 6000 + 100 * i + 10 * i + i, 20000 + 8000 * i);
            x.sight(0, i, 7000 + 100 * i + i, 10000 + 8000 * i);
        }
        x.sight(1, 2, 2430, 14230);
        x.sight(0, 3, 5500, 99);
        x.sight(0, 3, 4500, 34000);
        for (String text : new String[] {"e", "o+l", "l+e+p1"}) {
            Check.table(x, text);
        }
        for (int s = 0; s < 8; s++) {
            x.send(s, s % 4, 100 * s);
        }
        x.image();
        x.sight(2, 1, 3200, 4009);
        x.sight(0, 4, 6330, 42009);
        x.sight(1, 4, 7103, 28009);
        x.send(3, 0, 999);
        Check.putAll(x, 0, 5, 0, 0, 0, 0, 0, 9, 1);
        Check.feed(x, "o+p2");
        return x;
    }

    /** What the image keeps, as far as calls tell it; the calls that are refused tell something, too. */
    static String atWorld(LateMoons x) {
        StringBuilder b = new StringBuilder();
        for (int what = 0; what <= 3; what++) {
            b.append(x.count(what)).append(' ');
        }
        b.append(x.count(6)).append(" moons ");
        for (int m = 0; m < 4; m++) {
            for (int k = 0; k < 4; k++) {
                b.append(x.fading(m, k, k == 3)).append(' ');
            }
        }
        b.append("far ").append(x.far(12345)).append(" sights ");
        for (int s = 0; s < x.count(1); s++) {
            b.append(x.right(s)).append(' ');
        }
        b.append("tables ");
        long all = (1L << x.count(1)) - 1;
        for (int t = 0; t < x.count(3); t++) {
            b.append(x.allMoons(t)).append(' ');
            for (int m = 0; m < 4; m++) {
                b.append(x.says(t, m, 1, 0)).append(' ').append(x.fit(t, m, all, 1)).append(' ');
            }
        }
        b.append("post ");
        for (int h = 0; h < 4; h++) {
            for (int day : new int[] {0, 100, 300, 500, 999}) {
                b.append(x.has(h, day)).append(' ');
            }
        }
        return b.toString();
    }

    /** All: the rows, the text and the image are looked at by using them up. */
    static String atAll(LateMoons x) {
        StringBuilder b = new StringBuilder(atWorld(x));
        b.append("rows ").append(x.count(4)).append(" text ").append(x.count(5));
        b.append(" table ").append(x.table()).append(" read ").append(x.read());
        b.append(" then ").append(atWorld(x));
        b.append(" restored ").append(x.restore()).append(' ').append(atWorld(x));
        return b.toString();
    }

    static String refusals(LateMoons x) {
        StringBuilder b = new StringBuilder();
        for (int what = 11; what <= 16; what++) {
            b.append(x.count(what)).append(' ');
        }
        return b.toString();
    }
}
