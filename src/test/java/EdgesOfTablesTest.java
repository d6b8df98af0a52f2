/** The boundary cases of part III of the document and of promises 13 to 22, a sentence a test. */
public final class EdgesOfTablesTest {
    private static final Check CHECK = new Check();

    public static void main(String[] args) {
        bytesFrom1To8();
        textsOf20BytesAtMost();
        theLowestByteFirst();
        aRefusedFeedAddsNothing();
        theFirstByte();
        theByteAfterATerm();
        theByteAfterP();
        theByteAfterAPlus();
        theEndIfSomethingLacks();
        aTermThatCameAlready();
        aFourthTerm();
        theFirstFaultAlone();
        aFaultIsNotCounted();
        tablesAre8AtMost();
        aRefusedTextStays();
        guessesAtFirst();
        guessesFromLeastToGreatest();
        guessesOfMoonsThereOrNot();
        belowBeforeAboveInGuesses();
        saysOfTablesAndMoonsThere();
        saysOfFadings0To999();
        numbersOfOneTwoAndThreeTerms();
        numbersFromMinus3To3();
        stepsFrom1To60();
        wavesThatAreSaidBeginAnew();
        noPullByItself();
        lightIsCutToward0();
        lightByTheYear();
        CHECK.end();
    }

    /** A text as the only one of a new object. */
    private static int madeOf(String text) {
        return Check.table(new LateMoons(), text);
    }

    /** "n (1 .. 8) bytes come to the TEXT .. -4; -6". */
    private static void bytesFrom1To8() {
        CHECK.range("feed", LateMoons::new, (x, n) -> x.feed(n, 0), 1, 8, 0, n -> n);
        LateMoons x = new LateMoons();
        int size = 0;
        for (int n = 1; n <= 5; n++) {
            size += n;
            CHECK.due("fed " + n, x.feed(n, 0), size);
        }
        CHECK.due("bytes", x.count(5), 15);
        CHECK.due("below before what is above 20", x.feed(0, 0), -4);
    }

    /** "a TEXT (20 bytes at most)"; "-6 (above 20, too)". */
    private static void textsOf20BytesAtMost() {
        for (int n = 1; n <= 8; n++) {
            LateMoons x = new LateMoons();
            int before = 20 - n;
            for (int left = before; left > 0; left -= 8) {
                x.feed(Math.min(8, left), 0);
            }
            CHECK.due("before", x.count(5), before);
            CHECK.due("twenty by " + n, x.feed(n, 0), 20);
            CHECK.due("twenty-one", x.feed(1, 0), -6);
            CHECK.due("twenty-eight", x.feed(8, 0), -6);
            CHECK.due("none to twenty", x.feed(0, 0), -4);
            CHECK.due("twenty", x.count(5), 20);
            CHECK.due("-6 counted", x.count(16), 2);
            x.table();
            CHECK.due("room again", x.feed(8, 0), 8);
        }
        LateMoons x = new LateMoons();
        x.feed(8, 0);
        x.feed(5, 0);
        CHECK.due("thirteen and eight", x.feed(8, 0), -6);
        CHECK.due("thirteen and seven", x.feed(7, 0), 20);
    }

    /** "bytes come to the TEXT, the lowest first": those above n do not come. */
    private static void theLowestByteFirst() {
        LateMoons x = new LateMoons();
        x.feed(2, 0x7878783370L);
        CHECK.due("p3", x.table(), 0);
        x.feed(1, -256L | 'e');
        CHECK.due("e", x.table(), 1);
        x.feed(8, 0x326c2b652b30702bL);
        CHECK.due("+p0+e+l2", x.table(), -20);
        x.feed(8, 0x336c2b652b30706fL);
        CHECK.due("op0+e+l3", x.table(), -21);
        x.feed(8, 0xff2b6c2b652b3070L);
        CHECK.due("p0+e+l+ and the last of eight", x.table(), -27);
        x.feed(8, 0xff652b6c2b33702bL >>> 8);
        CHECK.due("p3+l+e and the last but one", x.table(), -26);
    }

    private static void aRefusedFeedAddsNothing() {
        LateMoons x = new LateMoons();
        x.feed(2, '0' << 8 | 'p');
        x.feed(0, 'x');
        x.feed(9, 'x');
        x.feed(-1, 'x');
        CHECK.due("two bytes", x.count(5), 2);
        CHECK.due("as they were", x.table(), 0);
    }

    /** "TERM { "+" TERM }: "e" .., "o" .., "l" .., "p" and a digit 0 .. 3": of all bytes that can come first. */
    private static void theFirstByte() {
        for (int b = 0; b <= 255; b++) {
            boolean stands = b == 'e' || b == 'o' || b == 'l';
            CHECK.due("first byte " + b, madeOf("" + (char) b), stands ? 0 : b == 'p' ? -21 : -20);
        }
    }

    /** A term may be followed by "+" alone. */
    private static void theByteAfterATerm() {
        for (String term : new String[] {"e", "o", "l", "p0", "p3"}) {
            for (int b = 0; b <= 255; b++) {
                int place = term.length() + (b == '+' ? 1 : 0);
                CHECK.due("byte " + b + " after " + term, madeOf(term + (char) b), -20 - place);
            }
        }
    }

    /** ""p" and a digit 0 .. 3". */
    private static void theByteAfterP() {
        for (int b = 0; b <= 255; b++) {
            CHECK.due("byte " + b + " after p", madeOf("p" + (char) b), b >= '0' && b <= '3' ? 0 : -21);
            CHECK.due("byte " + b + " after e+p", madeOf("e+p" + (char) b), b >= '0' && b <= '3' ? 0 : -23);
        }
    }

    private static void theByteAfterAPlus() {
        for (int b = 0; b <= 255; b++) {
            boolean stands = b == 'o' || b == 'l';
            CHECK.due("byte " + b + " after e+", madeOf("e+" + (char) b), stands ? 0 : b == 'p' ? -23 : -22);
        }
    }

    /** "the end, if something lacks". */
    private static void theEndIfSomethingLacks() {
        CHECK.due("no byte", madeOf(""), -20);
        CHECK.due("no digit", madeOf("p"), -21);
        CHECK.due("no term", madeOf("l+"), -22);
        CHECK.due("no term after p", madeOf("p2+"), -23);
        CHECK.due("no digit of a second", madeOf("p2+p"), -24);
        CHECK.due("no third", madeOf("p2+p1+"), -26);
        CHECK.due("no digit of a third", madeOf("p2+p1+p"), -27);
        CHECK.due("nothing lacks", madeOf("p2+p1+p0"), 0);
    }

    /** "each TERM once at most"; "(.. of a TERM that came already .. its first)". */
    private static void aTermThatCameAlready() {
        CHECK.due("e, e", madeOf("e+e"), -22);
        CHECK.due("o, o", madeOf("o+o"), -22);
        CHECK.due("l, l", madeOf("l+l"), -22);
        for (int j = 0; j <= 3; j++) {
            CHECK.due("p" + j + " twice", madeOf("p" + j + "+p" + j), -23);
            CHECK.due("p" + j + " and the next", madeOf("p" + j + "+p" + (j + 1) % 4), 0);
            CHECK.due("p" + j + " in the third place", madeOf("p" + j + "+e+p" + j), -25);
        }
        CHECK.due("the first as third", madeOf("e+o+e"), -24);
        CHECK.due("the second as third", madeOf("e+o+o"), -24);
        CHECK.due("what comes after it does not matter", madeOf("l+l+xxx"), -22);
        CHECK.due("nor right after it", madeOf("p1+p1x"), -23);
        CHECK.due("a lack before it is one", madeOf("p1+p"), -24);
    }

    /** "3 at most"; "of a fourth its first". */
    private static void aFourthTerm() {
        CHECK.due("three", madeOf("e+o+l"), 0);
        CHECK.due("a fourth", madeOf("e+o+l+p0"), -26);
        CHECK.due("a fourth that came already", madeOf("e+o+l+e"), -26);
        CHECK.due("a fourth without a digit", madeOf("e+o+l+p"), -26);
        CHECK.due("a fourth of a wrong digit", madeOf("e+o+l+p4"), -26);
        CHECK.due("a fourth that is none", madeOf("e+o+l+x"), -26);
        CHECK.due("a fourth that lacks", madeOf("e+o+l+"), -26);
        CHECK.due("three, then no plus", madeOf("e+o+lp0"), -25);
        CHECK.due("all that a text can have", madeOf("p0+p1+p2+p3+e+o+l+e+"), -29);
        CHECK.due("twenty bytes, all wrong but one", madeOf("ex                  "), -21);
    }

    private static void theFirstFaultAlone() {
        CHECK.due("a byte before a term that came", madeOf("e-e"), -21);
        CHECK.due("a term that came before a byte", madeOf("e+e-"), -22);
        CHECK.due("a plus before a plus", madeOf("e++e"), -22);
        CHECK.due("a plus first", madeOf("+"), -20);
        CHECK.due("a plus for a digit", madeOf("p+e"), -21);
    }

    /** "or, if it has a FAULT, -20 less its place (nothing is counted)"; "The TEXT, which has none then". */
    private static void aFaultIsNotCounted() {
        LateMoons x = new LateMoons();
        CHECK.due("a fault", Check.table(x, "p0+x"), -23);
        CHECK.same("nothing is counted", Look.refusals(x), Look.refusals(new LateMoons()));
        CHECK.due("the text has none", x.count(5), 0);
        CHECK.due("no table", x.count(3), 0);
        CHECK.due("the next text begins anew", Check.table(x, "p"), -21);
        CHECK.due("and the next", Check.table(x, "l"), 0);
        CHECK.due("the text has none", x.count(5), 0);
        CHECK.due("it is not made twice", x.table(), -20);
        CHECK.due("one table", x.count(3), 1);
    }

    /** "TABLES have numbers from 0 on (8 at most)"; "-6 8". */
    private static void tablesAre8AtMost() {
        LateMoons x = Check.with();
        String[] texts = {"e", "o", "l", "p0", "p1", "p2+e", "p3+o+l", "e"};
        for (int i = 0; i < 8; i++) {
            CHECK.due("table " + i, Check.table(x, texts[i]), i);
        }
        Check.feed(x, "o");
        CHECK.due("a ninth", x.table(), -6);
        CHECK.due("a ninth again", x.table(), -6);
        CHECK.due("eight", x.count(3), 8);
        CHECK.due("-6 counted", x.count(16), 2);
        CHECK.due("the first", x.says(0, 0, 1, 6), 1030);
        CHECK.due("the last", x.says(7, 0, 1, 6), 1030);
        CHECK.due("the last but one", x.says(6, 0, 1, 342), 1090);
        CHECK.due("no ninth", x.says(8, 0, 1, 6), Check.no(-1));
    }

    /** "(Refused: it stays.)" */
    private static void aRefusedTextStays() {
        LateMoons x = new LateMoons();
        for (int i = 0; i < 7; i++) {
            Check.table(x, "e");
        }
        x.image();
        Check.table(x, "o");
        CHECK.due("no room for none", x.table(), -6);
        Check.feed(x, "p2+");
        CHECK.due("no room", x.table(), -6);
        CHECK.due("three bytes", x.count(5), 3);
        CHECK.due("a fourth", x.feed(1, 'l'), 4);
        CHECK.due("no room", x.table(), -6);
        x.restore();
        CHECK.due("seven", x.count(3), 7);
        CHECK.due("it is made now", x.table(), 7);
        x.moon(0, 0, 1000, 0, 0);
        CHECK.due("as it was fed", x.says(7, 0, 1, 6 + 3 * 7), 1000 + 30 * 3);
        CHECK.due("no text is left", x.count(5), 0);
    }

    /** "FIRST and PERIOD as GUESSED (0 and 1000 at first ..)". */
    private static void guessesAtFirst() {
        for (int m = 0; m <= 3; m++) {
            LateMoons x = new LateMoons();
            Check.table(x, "e");
            x.moon(m, 777, 5000, 9, 9);
            CHECK.due("first of " + m, x.says(0, m, 0, 3), 0);
            CHECK.due("period of " + m, x.says(0, m, 1, 3), 1000);
            CHECK.due("the last of " + m, x.says(0, m, 999, 3), 999000);
        }
    }

    /** "ranges as above": FIRST 0 .. 999999, PERIOD 1000 .. 999999. */
    private static void guessesFromLeastToGreatest() {
        CHECK.range("guessed FIRST", LateMoons::new, (x, n) -> x.guess(2, n, 1000), 0, 999999, 0, n -> 1);
        CHECK.range("guessed PERIOD", LateMoons::new, (x, n) -> x.guess(2, 0, n), 1000, 999999, 0, n -> 1);
        LateMoons x = Check.with("e");
        x.guess(0, 999999, 999999);
        CHECK.due("the greatest", x.says(0, 0, 999, 3), 999999000L);
        x.guess(0, 1000000, 1000);
        x.guess(0, 5, 1000000);
        x.guess(0, -1, 1000);
        x.guess(0, 5, 999);
        CHECK.due("refused ones change nothing", x.says(0, 0, 999, 3), 999999000L);
        CHECK.due("nor the first", x.says(0, 0, 0, 3), 999999);
        x.guess(0, 0, 1000);
        CHECK.due("the least", x.says(0, 0, 999, 3), 999000);
    }

    /** "-1 (0 .. 3, there or not)". */
    private static void guessesOfMoonsThereOrNot() {
        CHECK.among("guess", LateMoons::new, (x, m) -> x.guess(m, 5, 2000), 3, -1, 0, m -> 1);
        LateMoons x = Check.with("e");
        for (int m = 0; m <= 3; m++) {
            x.guess(m, 10 * m, 2000 + m);
        }
        CHECK.due("no moon came of it", x.count(0), 1);
        for (int m = 0; m <= 3; m++) {
            x.moon(m, 777, 5000, 9, 9);
            CHECK.due("guessed of " + m, x.says(0, m, 1, 3), 2000 + 11 * m);
        }
        CHECK.due("nobody before below", x.guess(4, -1, 999), -1);
        CHECK.due("nobody before above", x.guess(-1, 1000000, 1000000), -1);
    }

    /** "-1 ..; -4; -6": all that is below comes before what is above. */
    private static void belowBeforeAboveInGuesses() {
        CHECK.due("first below, period above", new LateMoons().guess(0, -1, 1000000), -4);
        CHECK.due("first above, period below", new LateMoons().guess(0, 1000000, 999), -4);
        CHECK.due("first above", new LateMoons().guess(0, 1000000, 1000), -6);
        CHECK.due("period above", new LateMoons().guess(0, 0, 1000000), -6);
    }

    /** Moons 0 and 2; tables of one, two and three terms. */
    private static LateMoons threeTables() {
        LateMoons x = Check.with("e", "e+o", "o+e+p1");
        x.moon(2, 0, 1000, 0, 0);
        return x;
    }

    /** "-1; -4, -6 (k); -4, -6 (NUMBERS ..)". */
    private static void saysOfTablesAndMoonsThere() {
        CHECK.among("says of table", EdgesOfTablesTest::threeTables, (x, t) -> x.says(t, 0, 1, 6), 2, -1, Check.LONG,
            t -> new int[] {1030, 1000 + 30 - 90, 1000 + 90 - 30 - 120}[t]);
        CHECK.due("no tables", Check.with().says(0, 0, 0, 0), Check.no(-1));
        for (int m : new int[] {1, 3, -1, 4, Integer.MIN_VALUE, Integer.MAX_VALUE}) {
            CHECK.due("moon " + m, threeTables().says(0, m, 0, 0), Check.no(-1));
            CHECK.due("moon " + m + " before k", threeTables().says(0, m, -1, 0), Check.no(-1));
            CHECK.due("moon " + m + " before numbers", threeTables().says(0, m, 0, 7), Check.no(-1));
        }
        CHECK.due("table before k", threeTables().says(3, 0, 1000, 0), Check.no(-1));
        CHECK.due("table before numbers", threeTables().says(-1, 0, 0, -1), Check.no(-1));
        CHECK.due("k below before numbers above", threeTables().says(0, 0, -1, 7), Check.no(-4));
        CHECK.due("k above before numbers below", threeTables().says(0, 0, 1000, -1), Check.no(-6));
    }

    private static void saysOfFadings0To999() {
        CHECK.range("says k", EdgesOfTablesTest::threeTables, (x, k) -> x.says(0, 2, k, 3), 0, 999, Check.LONG, k -> 1000L * k);
    }

    /** "NUMBERS: 7 to its TERMS, or more": of one TERM 0 .. 6, of two 0 .. 48, of three 0 .. 342. */
    private static void numbersOfOneTwoAndThreeTerms() {
        CHECK.range("one", EdgesOfTablesTest::threeTables, (x, n) -> x.says(0, 0, 1, n), 0, 6, Check.LONG,
            n -> n == 0 ? 970 : 1030);
        CHECK.range("two", EdgesOfTablesTest::threeTables, (x, n) -> x.says(1, 0, 1, n), 0, 48, Check.LONG,
            n -> n == 0 ? 880 : 1120);
        CHECK.range("three", EdgesOfTablesTest::threeTables, (x, n) -> x.says(2, 0, 1, n), 0, 342, Check.LONG,
            n -> n == 0 ? 760 : 1240);
    }

    /** "NUMBERS (one for each of its TERMS, -3 .. 3)", "digits to the base 7, each and 3, the first TERM's the lowest". */
    private static void numbersFromMinus3To3() {
        LateMoons x = threeTables();
        for (int n = -3; n <= 3; n++) {
            CHECK.due("o " + n, x.says(2, 0, 1, n + 3 + 21 + 147), 1000 + 30 * n);
            CHECK.due("e " + n, x.says(2, 0, 1, 3 + 7 * (n + 3) + 147), 1000 + 10 * n);
            CHECK.due("p1 " + n, x.says(2, 0, 1, 3 + 21 + 49 * (n + 3)), 1000 + 40 * n);
        }
        CHECK.due("a digit begins anew", x.says(1, 0, 1, 6), 1000 + 30 - 90);
        CHECK.due("and the next has one more", x.says(1, 0, 1, 7), 1000 - 30 - 60);
        CHECK.due("the third", x.says(2, 0, 1, 49), 1000 - 90 - 30 - 80);
    }

    /** "STEP (1 .. 60; 10 at first)". */
    private static void stepsFrom1To60() {
        LateMoons x = threeTables();
        CHECK.due("ten", x.says(2, 0, 1, 342), 1000 + 10 * (9 + 3 + 12));
        x.set(2, 1);
        CHECK.due("one", x.says(2, 0, 1, 342), 1000 + 9 + 3 + 12);
        CHECK.due("one, least", x.says(2, 0, 1, 0), 1000 - 9 - 3 - 12);
        x.set(2, 60);
        CHECK.due("sixty", x.says(2, 0, 1, 342), 1000 + 60 * (9 + 3 + 12));
        x.set(2, 61);
        x.set(2, 0);
        CHECK.due("sixty still", x.says(2, 0, 1, 0), 1000 - 60 * (9 + 3 + 12));
    }

    private static void wavesThatAreSaidBeginAnew() {
        LateMoons x = Check.with("o", "p1", "p2", "p3");
        x.set(2, 1);
        int[][] due = {
            // k, waves of k, of 2 k, of 3 k, of 4 k
            {0, 0, 0, 0, 0}, {1, 3, 4, 3, 0}, {2, 4, 0, -4, 0}, {3, 3, -4, 3, 0}, {4, 0, 0, 0, 0}, {5, -3, 4, -3, 0},
            {6, -4, 0, 4, 0}, {7, -3, -4, -3, 0}, {8, 0, 0, 0, 0}, {9, 3, 4, 3, 0}, {998, -4, 0, 4, 0},
            {999, -3, -4, -3, 0}};
        for (int[] row : due) {
            for (int t = 0; t <= 3; t++) {
                CHECK.due("table " + t + " of " + row[0], x.says(t, 0, row[0], 6), 1000 * row[0] + 3 * row[1 + t]);
            }
        }
    }

    /** "(0 for MOON j itself)"; a MOON j that is not there does not matter. */
    private static void noPullByItself() {
        for (int m = 0; m <= 3; m++) {
            LateMoons x = new LateMoons();
            x.moon(m, 0, 1000, 0, 0);
            for (int j = 0; j <= 3; j++) {
                Check.table(x, "p" + j);
                int wave = new int[] {3, 4, 3, 0}[j];
                CHECK.due("p" + j + " of " + m, x.says(j, m, 1, 6), 1000 + (j == m ? 0 : 30 * wave));
                CHECK.due("p" + j + " of " + m, x.says(j, m, 1, 0), 1000 - (j == m ? 0 : 30 * wave));
            }
        }
    }

    /** ""l" times STEP times FAR of g by 100, cut toward 0". */
    private static void lightIsCutToward0() {
        CHECK.due("99 by 100", light(99, 1, 1), 0);
        CHECK.due("100 by 100", light(100, 1, 1), 1);
        CHECK.due("199 by 100", light(199, 1, 1), 1);
        CHECK.due("-99 by 100", light(99, 1, -1), 0);
        CHECK.due("-100 by 100", light(100, 1, -1), -1);
        CHECK.due("-199 by 100", light(199, 1, -1), -1);
        CHECK.due("3 times 33", light(33, 1, 3), 0);
        CHECK.due("3 times 34", light(34, 1, 3), 1);
        CHECK.due("60 times 1", light(1, 60, 1), 0);
        CHECK.due("60 times 2", light(2, 60, 1), 1);
        CHECK.due("60 times -2", light(2, 60, -1), -1);
        CHECK.due("the most", light(1000, 60, 3), 1800);
        CHECK.due("the least", light(1000, 60, -3), -1800);
        CHECK.due("nothing", light(1000, 60, 0), 0);
        CHECK.due("nothing so near", light(0, 60, 3), 0);
    }

    /** What "l" adds to a guess that is so far. */
    private static long light(int far, int step, int number) {
        LateMoons x = Check.with("l");
        x.set(1, 2000);
        x.set(2, step);
        x.guess(0, far, 1000);
        CHECK.due("far", x.far(far), far);
        return x.says(0, 0, 0, number + 3) - far;
    }

    /** "FAR of g": of the guess, not of the fading; it begins anew with the YEAR. */
    private static void lightByTheYear() {
        LateMoons x = new LateMoons();
        x.moon(0, 1700, 1000, 0, 0);
        Check.table(x, "l");
        x.set(1, 2000);
        x.guess(0, 0, 1000);
        CHECK.due("in the middle", x.says(0, 0, 1, 4), 1000 + 100);
        CHECK.due("as it begins anew", x.says(0, 0, 2, 4), 2000);
        CHECK.due("in the middle again", x.says(0, 0, 999, 4), 999000 + 100);
        x.guess(0, 1001, 1000);
        CHECK.due("after the middle", x.says(0, 0, 0, 6), 1001 + 299);
        x.guess(0, 1999, 1000);
        CHECK.due("before it ends", x.says(0, 0, 0, 6), 1999);
    }
}
