/** Promises 13 to 16: feed, table, guess, says. */
public final class TablesTest {
    private static final Check CHECK = new Check();

    public static void main(String[] args) {
        feeding();
        textsThatStand();
        faults();
        eightTables();
        guessing();
        termsSay();
        lightIsCutTowardNought();
        numbersAsDigits();
        saysRefuses();
        CHECK.end();
    }

    private static void feeding() {
        LateMoons x = new LateMoons();
        CHECK.due("none", x.feed(0, 0), -4);
        CHECK.due("below", x.feed(Integer.MIN_VALUE, 0), -4);
        CHECK.due("nine", x.feed(9, 0), -6);
        CHECK.due("very many", x.feed(Integer.MAX_VALUE, 0), -6);
        CHECK.due("eight", x.feed(8, -1L), 8);
        CHECK.due("four", x.feed(4, 0), 12);
        CHECK.due("one", x.feed(1, 0), 13);
        CHECK.due("twenty-one", x.feed(8, 0), -6);
        CHECK.due("still 13", x.count(5), 13);
        CHECK.due("twenty", x.feed(7, 0), 20);
        CHECK.due("no room", x.feed(1, 0), -6);
        CHECK.due("bytes", x.count(5), 20);
        CHECK.due("-4 counted", x.count(14), 2);
        CHECK.due("-6 counted", x.count(16), 4);
        LateMoons y = new LateMoons();
        CHECK.due("the lowest first, those above n not at all", y.feed(2, 0x7878783070L), 2);
        CHECK.due("p0", y.table(), 0);
    }

    private static void textsThatStand() {
        String[] texts = {"e", "o", "l", "p0", "p3", "p0+p1+p2", "l+p3+e", "o+e"};
        LateMoons x = new LateMoons();
        for (int i = 0; i < texts.length; i++) {
            CHECK.due(texts[i], Check.table(x, texts[i]), i);
            CHECK.due("the text has none then", x.count(5), 0);
            CHECK.due("tables", x.count(3), i + 1);
        }
    }

    private static void faults() {
        fault("", 0);
        fault("x", 0);
        fault("E", 0);
        fault("+", 0);
        fault("+e", 0);
        fault(" e", 0);
        fault("0", 0);
        fault("" + (char) 233, 0);
        fault("" + (char) 0, 0);
        fault("ee", 1);
        fault("e ", 1);
        fault("e0", 1);
        fault("e-o", 1);
        fault("e+", 2);
        fault("e++o", 2);
        fault("e+x", 2);
        fault("e+e", 2);
        fault("e+e+", 2);
        fault("p", 1);
        fault("p4", 1);
        fault("pp", 1);
        fault("p+", 1);
        fault("p/", 1);
        fault("p00", 2);
        fault("p0+p", 4);
        fault("p0+p0", 3);
        fault("p0+p01", 3);
        fault("p0+p5", 4);
        fault("o+p1+o", 5);
        fault("e+o+l+", 6);
        fault("e+o+l+p0", 6);
        fault("e+o+l+p", 6);
        fault("e+o+l+p7", 6);
        fault("e+o+l+e", 6);
        fault("e+o+lx", 5);
        fault("p0+p1+p2+p3", 9);
        fault("p0+p1+p2+p3+e+o+l+ee", 9);
        fault("eeeeeeeeeeeeeeeeeeee", 1);
    }

    private static void fault(String text, int place) {
        LateMoons x = new LateMoons();
        CHECK.due("fault of \"" + text + "\"", Check.table(x, text), -20 - place);
        CHECK.due("no table came of it", x.count(3), 0);
        CHECK.due("the text has none then", x.count(5), 0);
        for (int what = 11; what <= 16; what++) {
            CHECK.due("nothing is counted", x.count(what), 0);
        }
    }

    private static void eightTables() {
        LateMoons x = new LateMoons();
        for (int i = 0; i < 8; i++) {
            CHECK.due("table " + i, Check.table(x, "e"), i);
        }
        Check.feed(x, "o+l");
        CHECK.due("no room", x.table(), -6);
        CHECK.due("the text stays", x.count(5), 3);
        CHECK.due("eight", x.count(3), 8);
        Check.feed(x, "x");
        CHECK.due("no room for a fault either", x.table(), -6);
        CHECK.due("it stays", x.count(5), 4);
        CHECK.due("-6 counted", x.count(16), 2);
    }

    private static void guessing() {
        LateMoons x = new LateMoons();
        x.moon(3, 77, 5000, 0, 0);
        Check.table(x, "e");
        CHECK.due("guessed at first", x.says(0, 3, 7, 3), 7000);
        for (int m = 0; m <= 3; m++) {
            CHECK.due("there or not", x.guess(m, 999999, 999999), 1);
        }
        CHECK.due("as guessed", x.says(0, 3, 2, 3), 3 * 999999);
        CHECK.due("the last", x.says(0, 3, 999, 3), 999999L * 1000);
        CHECK.due("least guess", x.guess(3, 0, 1000), 1);
        CHECK.due("as guessed", x.says(0, 3, 2, 3), 2000);
        CHECK.due("no moon 4", x.guess(4, -1, 0), -1);
        CHECK.due("no moon -1", x.guess(-1, 1000000, 1000), -1);
        CHECK.due("first below", x.guess(3, -1, 1000000), -4);
        CHECK.due("period below", x.guess(3, 1000000, 999), -4);
        CHECK.due("first above", x.guess(3, 1000000, 1000), -6);
        CHECK.due("period above", x.guess(3, 0, 1000000), -6);
        CHECK.due("unchanged", x.says(0, 3, 2, 3), 2000);
        CHECK.due("-1 counted", x.count(11), 2);
        CHECK.due("-4 counted", x.count(14), 2);
        CHECK.due("-6 counted", x.count(16), 2);
        CHECK.due("a guess is no moon", x.count(0), 1);
    }

    private static LateMoons withTerms() {
        LateMoons x = new LateMoons();
        x.moon(1, 0, 1000, 0, 0);
        x.set(1, 10000);
        x.guess(1, 5000, 1000);
        for (String text : new String[] {"e", "o", "l", "p0", "p1", "p2", "p3"}) {
            Check.table(x, text);
        }
        return x;
    }

    private static void termsSay() {
        LateMoons x = withTerms();
        CHECK.due("e -3", x.says(0, 1, 1, 0), 5970);
        CHECK.due("e 3", x.says(0, 1, 1, 6), 6030);
        CHECK.due("o 2", x.says(1, 1, 1, 5), 6060);
        CHECK.due("o 2, of 6", x.says(1, 1, 6, 5), 11000 - 80);
        CHECK.due("l -1", x.says(2, 1, 1, 2), 5920);
        CHECK.due("l 3", x.says(2, 1, 0, 6), 5300);
        CHECK.due("p0 1", x.says(3, 1, 2, 4), 7040);
        CHECK.due("p1 of moon 1 itself", x.says(4, 1, 2, 6), 7000);
        CHECK.due("p2 3, though it is not there", x.says(5, 1, 1, 6), 6090);
        CHECK.due("p2 3, of 2", x.says(5, 1, 2, 6), 7000 - 120);
        CHECK.due("p3, waves of four", x.says(6, 1, 1, 6), 6000);
        x.set(2, 60);
        CHECK.due("step 60", x.says(1, 1, 1, 5), 6000 + 360);
        x.moon(0, 0, 1000, 0, 0);
        CHECK.due("p1 of another moon", x.says(4, 0, 1, 6), 1000 + 3 * 60 * 4);
    }

    private static void lightIsCutTowardNought() {
        LateMoons x = withTerms();
        x.set(2, 1);
        x.guess(1, 5750, 1000);
        CHECK.due("down", x.says(2, 1, 0, 2), 5742);
        CHECK.due("up", x.says(2, 1, 0, 4), 5758);
        CHECK.due("nought", x.says(2, 1, 0, 3), 5750);
    }

    private static void numbersAsDigits() {
        LateMoons x = new LateMoons();
        x.moon(0, 0, 1000, 0, 0);
        Check.table(x, "o+e+p1");
        // of fading 1: o 30, e 10, p1 40 for each
        CHECK.due("all -3", x.says(0, 0, 1, 0), 1000 - 90 - 30 - 120);
        CHECK.due("all 3", x.says(0, 0, 1, 342), 1000 + 90 + 30 + 120);
        CHECK.due("the first is the lowest", x.says(0, 0, 1, 4 + 3 * 7 + 3 * 49), 1030);
        CHECK.due("the second", x.says(0, 0, 1, 3 + 4 * 7 + 3 * 49), 1010);
        CHECK.due("the third", x.says(0, 0, 1, 3 + 3 * 7 + 4 * 49), 1040);
    }

    private static void saysRefuses() {
        LateMoons x = withTerms();
        Check.table(x, "e+o+l");
        CHECK.due("no table", x.says(8, 1, -1, -1), Check.no(-1));
        CHECK.due("no table", x.says(-1, 1, 0, 0), Check.no(-1));
        CHECK.due("no moon", x.says(0, 4, 1000, 0), Check.no(-1));
        CHECK.due("moon not there", x.says(0, 0, 0, 7), Check.no(-1));
        CHECK.due("k below", x.says(0, 1, -1, 7), Check.no(-4));
        CHECK.due("k above", x.says(0, 1, 1000, -1), Check.no(-6));
        CHECK.due("numbers below", x.says(0, 1, 0, -1), Check.no(-4));
        CHECK.due("numbers above", x.says(0, 1, 0, 7), Check.no(-6));
        CHECK.due("numbers of three", x.says(7, 1, 0, 343), Check.no(-6));
        CHECK.due("-1 counted", x.count(11), 4);
        CHECK.due("-4 counted", x.count(14), 2);
        CHECK.due("-6 counted", x.count(16), 3);
    }
}
