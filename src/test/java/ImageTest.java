/** Promises 32 to 34: image, restore, count. */
public final class ImageTest {
    private static final Check CHECK = new Check();
    private static final int CHANGES = 16;

    public static void main(String[] args) {
        imageAndRestore();
        everythingComesBack();
        whatGoesOn();
        imageStaysAsItWas();
        emptyImage();
        counts();
        CHECK.end();
    }

    private static void imageAndRestore() {
        LateMoons x = new LateMoons();
        CHECK.due("there is none", x.restore(), -3);
        CHECK.due("-3 counted", x.count(13), 1);
        x.moon(0, 0, 1000, 0, 0);
        x.sight(0, 1, 0, 5);
        x.sight(0, 1, 0, 6);
        CHECK.due("image of two", x.image(), 2);
        x.sight(0, 1, 0, 7);
        CHECK.due("restored", x.restore(), 2);
        x.takeBack();
        x.takeBack();
        CHECK.due("restored again", x.restore(), 2);
        CHECK.due("as it was", x.right(1), 6);
        x.sight(0, 1, 0, 8);
        CHECK.due("a later image", x.image(), 3);
        x.takeBack();
        CHECK.due("the later one", x.restore(), 3);
    }

    /** One change of each kind after the image; restored it looks as one that was never changed. */
    private static void everythingComesBack() {
        String still = Look.atWorld(() -> changed(0, -1, true));
        for (int change = 0; change < CHANGES; change++) {
            int which = change;
            String then = Look.atWorld(() -> changed(which, which, false));
            CHECK.due("change " + change + " can be seen", then.equals(still) ? 0 : 1, 1);
            CHECK.same("restored after change " + change, Look.atWorld(() -> changed(which, which, true)), still);
        }
        CHECK.same("restored after all changes", Look.atWorld(() -> changed(0, CHANGES - 1, true)), still);
    }

    /** The text goes on, so it is used up before: or it would differ after the change that uses it. */
    private static LateMoons changed(int first, int last, boolean restored) {
        LateMoons x = Look.rich();
        x.table();
        x.image();
        for (int change = first; change <= last; change++) {
            change(x, change);
        }
        if (restored) {
            x.restore();
        }
        return x;
    }

    private static void change(LateMoons x, int which) {
        switch (which) {
            case 0:
                x.moon(3, 1, 1000, 0, 0);
                break;
            case 1:
                x.moon(0, 1, 1001, 1, 1);
                x.moon(1, 1, 1001, 1, 1);
                break;
            case 2:
                x.pull(0, 1, -2);
                break;
            case 3:
            case 4:
            case 5:
            case 6:
            case 7:
                x.set(which - 3, 1000 + which);
                x.set(which - 3, which);
                break;
            case 8:
            case 9:
            case 10:
            case 11:
                x.tool(which - 8, 2, 77);
                break;
            case 12:
                x.takeBack();
                x.takeBack();
                x.takeBack();
                x.sight(1, 9, 2421, 5);
                x.sight(1, 9, 7012, 5);
                x.sight(2, 9, 6220, 5);
                break;
            case 13:
                x.feed(1, 'e');
                x.table();
                Check.table(x, "p3+o");
                break;
            case 14:
                x.guess(1, 77, 7777);
                break;
            default:
                x.send(0, 0, -1);
                x.send(1, 2, 3);
        }
    }

    private static void whatGoesOn() {
        LateMoons x = new LateMoons();
        x.image();
        x.set(9, 0);
        x.far(-1);
        Check.feed(x, "p3+");
        Check.putAll(x, 4, 5);
        x.moon(1, 0, 1000, 0, 0);
        CHECK.due("restored", x.restore(), 0);
        CHECK.due("no moon", x.count(0), 0);
        CHECK.due("refusals go on", x.count(12), 1);
        CHECK.due("refusals go on", x.count(14), 1);
        CHECK.due("the text goes on", x.count(5), 3);
        CHECK.due("the rows go on", x.count(4), 2);
        CHECK.due("the text as it was", Check.table(x, "e"), 0);
        x.moon(1, 0, 1000, 0, 0);
        CHECK.due("of two terms", x.says(0, 1, 1, 48), 1000 + 30);
    }

    private static void imageStaysAsItWas() {
        LateMoons x = new LateMoons();
        x.moon(0, 7, 1000, 0, 0);
        x.image();
        x.restore();
        x.moon(0, 8, 1000, 0, 0);
        x.set(0, 5);
        x.restore();
        CHECK.due("not what came after it was restored", x.fading(0, 0, false), 7);
        CHECK.due("nor its light", x.set(0, 0), 0);
    }

    private static void emptyImage() {
        LateMoons x = new LateMoons();
        CHECK.due("image of nothing", x.image(), 0);
        x.moon(0, 0, 1000, 0, 0);
        x.set(1, 5000);
        CHECK.due("nothing again", x.restore(), 0);
        CHECK.due("no moon", x.fading(0, 0, false), Check.no(-1));
        CHECK.due("the year of a new one", x.set(1, 1000), 31556952);
    }

    private static void counts() {
        LateMoons x = Look.rich();
        int[] due = {3, 14, 1, 3, 9, 4, 9};
        for (int what = 0; what < due.length; what++) {
            CHECK.due("count(" + what + ")", x.count(what), due[what]);
        }
        x.far(-1);
        x.far(-1);
        x.set(-1, 0);
        for (int i = 0; i < 3; i++) {
            x.moon(9, 0, 0, 0, 0);
        }
        x.sight(0, 1000, 0, 0);
        x.right(9);
        int[] refusals = {3, 1, 1, 2, 0, 1};
        for (int i = 0; i < refusals.length; i++) {
            CHECK.due("count(" + (11 + i) + ")", x.count(11 + i), refusals[i]);
        }
        for (int what : new int[] {-1, 7, 8, 9, 10, 17, Integer.MIN_VALUE, Integer.MAX_VALUE}) {
            CHECK.due("count(" + what + ")", x.count(what), -9);
        }
        CHECK.due("another what is no refusal", x.count(12), 1);
    }
}
