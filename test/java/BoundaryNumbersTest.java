/** The boundary cases that the document's "Terms" name of NUMBERS and COMPARISONS, sentence by sentence. */
public final class BoundaryNumbersTest {
    private static final Check check = new Check("BoundaryNumbersTest");
    private static final Rows rows = new Rows(check);
    private static final double B = Rows.B;
    private static final double INF = Rows.INF;
    private static final double BIG = Rows.BIG;
    private static final double TINY = Rows.TINY;
    private static final double FBIG = Rows.FBIG;
    private static final double FTINY = Rows.FTINY;

    /** Which of the comparisons 0 to 11 are so. */
    private static final String LESS = "110001001110";
    private static final String EQUAL = "010110101001";
    private static final String GREATER = "001101110010";
    private static final String BLANK = "000001111110";

    public static void main(String[] args) {
        zeros();
        infiniteOnes();
        nearest();
        ties();
        beyondAll();
        nearerToZero();
        broughtBySet();
        narrowIsWide();
        blankStays();
        reckonedNarrow();
        reckonedWide();
        comparisons();
        equalZeros();
        comparedBlanks();
        comparedWithConstants();
        check.end();
    }

    private static double[] row(double... numbers) {
        return numbers;
    }

    private static void zeros() {
        check.says("among them 0 and -0");
        for (boolean narrow : new boolean[] {false, true}) {
            TideBook book = new TideBook();
            check.due("width", book.width(7, narrow), narrow ? 1 : 0);
            check.due("0", book.set(7, 0, 0, 0), 1);
            check.due("-0", book.special(7, 15, 3), 1);
            rows.look("0 and -0", book, 7, narrow, 0.0, B, B, B, B, B, B, B, B, B, B, B, B, B, B, -0.0);
            check.due("-0 taken back", book.back(), narrow ? 2 : 1);
            rows.look("0 alone", book, 7, narrow, 0.0);
        }
    }

    private static void infiniteOnes() {
        check.says("and one infinite number of either sign");
        double[] x = row(INF, -INF, BIG, -BIG, 1, 1, -1, -1, INF, -INF);
        double[] want = row(INF, -INF, INF, -INF, INF, -INF, -INF, INF, INF, -INF);
        rows.wide("by product", 11, x, row(2, 2, 2, 2, INF, -INF, INF, -INF, TINY, TINY), 0, want);
        rows.wide("by quotient", 12, x, row(1, 1, 0.5, 0.5, TINY, -TINY, TINY, -TINY, BIG, BIG), 0, want);
        TideBook book = new TideBook();
        rows.fill(book, Rows.X, BIG, INF, -BIG, -INF);
        check.due("twice", book.formula(7, 7, Rows.X, 16, 0), 1);
        check.due("as one and the same", book.formula(8, 4, 7, 16, 0), 1);
        check.due("twice, equal to themselves", book.compared(7, 4, 8), 4);
        check.due("one bits", book.bits(7, 0) == book.bits(7, 1), true);
        check.due("one bits with a -", book.bits(7, 2) == book.bits(7, 3), true);
    }

    /** Three ways to bring a row to narrow: an input's width, x of a formula, and y of one. */
    private static void brought(String what, double[] wide, double[] narrow) {
        TideBook book = new TideBook();
        rows.fill(book, Rows.X, wide);
        check.due("narrow x", book.width(7, true) + book.formula(7, 0, Rows.X, 16, 0), 2);
        check.due("narrow y", book.width(8, true) + book.formula(8, 18, 3, Rows.X, 0), 2);
        check.due("blank column", book.input(3), 1);
        for (int place = 0; place < 16; place++) {
            check.due("blank x", book.special(3, place, 0), 1);
        }
        rows.look(what + ", x", book, 7, true, narrow);
        rows.look(what + ", y", book, 8, true, narrow);
        check.due("narrow input", book.width(Rows.X, true), 1);
        rows.look(what + ", width", book, Rows.X, true, narrow);
    }

    private static void broughtOfEitherSign(String what, double[] wide, double[] narrow) {
        brought(what, wide, narrow);
        brought(what + ", -", Rows.minus(wide), Rows.minus(narrow));
    }

    private static void nearest() {
        check.says("To bring a wide number to narrow is to take the nearest narrow one");
        broughtOfEitherSign("just beside a half way",
                row(0x1.000000fffffffp0, 0x1.0000010000001p0, 0x1.000002fffffffp0, 0x1.0000030000001p0,
                        0x1.fffffefffffffp0, 0x1.ffffff0000001p0, 0x1.fffffd0000001p127, 0x1.fffffcfffffffp127,
                        0x1.fffffdfffffffp-127, 0x1.fffffe0000001p-127, 0x1.8000000000001p-149,
                        0x1.7ffffffffffffp-149, 0x1.4000000000001p-148, 0x1.3ffffffffffffp-148),
                row(1, 0x1.000002p0, 0x1.000002p0, 0x1.000004p0,
                        0x1.fffffep0, 2, 0x1.fffffep127, 0x1.fffffcp127,
                        0x1.fffffcp-127, 0x1p-126, 2 * FTINY,
                        FTINY, 3 * FTINY, 2 * FTINY));
        broughtOfEitherSign("narrow ones themselves",
                row(1, 0x1.000002p0, FBIG, 0x1.fffffcp127, 0x1p-126, 0x1.fffffcp-127, FTINY, 3 * FTINY, 0.0, INF),
                row(1, 0x1.000002p0, FBIG, 0x1.fffffcp127, 0x1p-126, 0x1.fffffcp-127, FTINY, 3 * FTINY, 0.0, INF));
    }

    private static void ties() {
        check.says("of two the one whose last bit is 0");
        broughtOfEitherSign("half way",
                row(0x1.000001p0, 0x1.000003p0, 0x1.fffffdp0, 0x1.ffffffp0, 0x1.fffffdp127, 0x1.fffffbp127,
                        0x1.000001p-126, 0x1.fffffep-127, 0x1.fffffap-127, 0x1.8p-149, 0x1.4p-148, 0x1.cp-148,
                        16777217, 16777219, 0x1.000001p127, 0x1.000003p127),
                row(1, 0x1.000004p0, 0x1.fffffcp0, 2, 0x1.fffffcp127, 0x1.fffffcp127,
                        0x1p-126, 0x1p-126, 0x1.fffff8p-127, 2 * FTINY, 2 * FTINY, 4 * FTINY,
                        16777216, 16777220, 0x1p127, 0x1.000004p127));
    }

    private static void beyondAll() {
        check.says("beyond all: infinite");
        broughtOfEitherSign("beyond the greatest",
                row(0x1.ffffffp127, 0x1.ffffff0000001p127, 0x1.fffffffffffffp127, 0x1p128, 0x1.0000000000001p128,
                        0x1p129, 0x1p900, 0x1p1023, BIG, INF),
                row(INF, INF, INF, INF, INF, INF, INF, INF, INF, INF));
        broughtOfEitherSign("nearest to the greatest",
                row(0x1.fffffep127, 0x1.fffffe0000001p127, 0x1.fffffefffffffp127), row(FBIG, FBIG, FBIG));
    }

    private static void nearerToZero() {
        check.says("what is nearer to 0 than to the least one: 0, both with its sign");
        broughtOfEitherSign("below half of the least",
                row(0x1.fffffffffffffp-151, 0x1p-151, 0x1p-200, 0x1p-1000, 0x1p-1022, 0x1.ffffffffffffep-1023,
                        TINY, 3 * TINY),
                row(0.0, 0.0, 0.0, 0.0, 0.0, 0.0, 0.0, 0.0));
        broughtOfEitherSign("half of the least, 0 having the last bit 0", row(0x1p-150), row(0.0));
        broughtOfEitherSign("above half of the least",
                row(0x1.0000000000001p-150, 0x1.8p-150, 0x1.fffffffffffffp-150, 0x1p-149),
                row(FTINY, FTINY, FTINY, FTINY));
        broughtOfEitherSign("0 itself", row(0.0), row(0.0));
    }

    /** m, e and the narrow number. */
    private static final double[][] BY_SET = {
        {1 << 24, -24, 1}, {(1 << 24) + 1, -24, 1}, {(1 << 24) + 3, -24, 0x1.000004p0},
        {(1 << 30) + 63, -30, 1}, {(1 << 30) + 64, -30, 1}, {(1 << 30) + 65, -30, 0x1.000002p0},
        {(1 << 30) + 191, -30, 0x1.000002p0}, {(1 << 30) + 192, -30, 0x1.000004p0},
        {Integer.MAX_VALUE, 0, 0x1p31}, {Integer.MIN_VALUE, 0, -0x1p31}, {0x7fffff80, 0, 0x1.fffffep30},
        {0x7fffffbf, 97, FBIG}, {0x7fffffc0, 97, INF}, {-0x7fffffbf, 97, -FBIG}, {-0x7fffffc0, 97, -INF},
        {1, 127, 0x1p127}, {1, 128, INF}, {-1, 128, -INF}, {1, 900, INF}, {Integer.MIN_VALUE, 900, -INF},
        {1, -149, FTINY}, {1, -150, 0.0}, {-1, -150, -0.0}, {3, -151, FTINY}, {-3, -151, -FTINY},
        {(1 << 30) + 1, -180, FTINY}, {(1 << 30) - 1, -180, 0.0}, {1 - (1 << 30), -180, -0.0},
        {3, -150, 2 * FTINY}, {5, -150, 2 * FTINY}, {7, -150, 4 * FTINY},
        {1, -1000, 0.0}, {-1, -1000, -0.0}, {Integer.MIN_VALUE, -1000, -0.0}, {0, 0, 0.0}, {0, 900, 0.0}};

    private static void broughtBySet() {
        check.says("m * 2^e, brought to its width");
        TideBook book = new TideBook();
        check.due("width", book.width(7, true) + book.width(9, true), 2);
        check.due("y of a constant", book.formula(9, 18, 8, 16, 0), 1);
        for (double[] one : BY_SET) {
            String call = "(" + one[0] + ", " + one[1] + ")";
            check.due("set" + call, book.set(7, 15, (int) one[0], (int) one[1]), 1);
            check.due("set" + call, book.reading(7, 15), one[2]);
            check.due("set" + call, book.bits(7, 15), Float.floatToIntBits((float) one[2]));
            check.due("constant" + call, book.constant(0, (int) one[0], (int) one[1]), 1);
            check.due("constant" + call + " brought", book.reading(9, 0), one[2]);
        }
    }

    private static void narrowIsWide() {
        check.says("a narrow one is a wide one, too");
        TideBook book = new TideBook();
        double[] narrow = row(0x1.000002p0, FBIG, -FBIG, FTINY, -FTINY, 0x1.fffffcp-127, 0x1p-126, 0.0, -0.0,
                INF, -INF, B, 3, -3);
        rows.fill(book, Rows.X, narrow);
        check.due("narrow", book.width(Rows.X, true), 1);
        check.due("wide column of a narrow one", book.formula(7, 0, Rows.X, 16, 0), 1);
        rows.look("narrow", book, Rows.X, true, narrow);
        rows.look("read by a wide column", book, 7, false, narrow);
        check.due("equal as wide numbers", book.compared(7, 4, Rows.X), 13);
        check.due("wide", book.width(Rows.X, false), 1);
        rows.look("wide again", book, Rows.X, false, narrow);
    }

    private static void blankStays() {
        check.says("BLANK stays BLANK.");
        TideBook book = new TideBook();
        check.due("a number beside", book.set(2, 8, 5, 0), 1);
        double[] one = row(B, B, B, B, B, B, B, B, 5);
        check.due("narrow", book.width(2, true), 1);
        rows.look("narrow", book, 2, true, one);
        check.due("wide", book.width(2, false), 1);
        rows.look("wide", book, 2, false, one);
        check.due("narrow x", book.width(3, true) + book.formula(3, 0, 2, 16, 0), 2);
        rows.look("narrow x", book, 3, true, one);
        check.due("narrow y", book.width(4, true) + book.formula(4, 18, 1, 2, 0), 2);
        rows.look("narrow y", book, 4, true, one);
        check.due("a blank constant", book.formula(4, 18, 1, 23, 0), 1);
        check.due("a blank constant", book.told(4, 2), 16);
    }

    private static void reckonedNarrow() {
        check.says("What a formula reckons is rounded likewise, to the width of its column.");
        rows.narrow("half way, beside it, and beyond", 9,
                row(16777216, 16777218, 16777216, 16777216, FBIG, FBIG, FBIG, -FBIG, 1, 1),
                row(1, 1, 0x1.000002p0, 0x1.fffffep-1, 0x1p102, 0x1.fffffep102, 0x1p103, -0x1p103,
                        0x1p-24, 0x1.000002p-24), 0,
                row(16777216, 16777220, 16777218, 16777216, FBIG, FBIG, INF, -INF, 1, 0x1.000002p0));
        rows.narrow("taken away", 10, row(16777216, -16777216, -FBIG, FBIG, FTINY, 0x1p-126),
                row(-1, 3, 0x1p103, -0x1p102, 0x1p-148, FTINY), 0,
                row(16777216, -16777220, -INF, FBIG, -FTINY, 0x1.fffffcp-127));
        rows.narrow("products", 11, row(0x1p-100, 0x1p-100, 0x1p-100, -0x1p-100, 0x1p100, -0x1p100, 0x1.fffffep127,
                        3 * FTINY, 5 * FTINY, 0x1.000002p-75),
                row(0x1p-49, 0x1p-50, 0x1.000002p-50, 0x1p-50, 0x1p27, 0x1p28, 1, 0.5, 0.5, 0x1p-75), 0,
                row(FTINY, 0.0, FTINY, -0.0, 0x1p127, -INF, FBIG, 2 * FTINY, 2 * FTINY, FTINY));
        rows.narrow("quotients", 12, row(FTINY, 3 * FTINY, FTINY, FTINY, FBIG, -FBIG, 1),
                row(2, 4, 4, 0x1.fffffep0, 0x1.fffffep-1, 0.5, 3), 0,
                row(0.0, FTINY, 0.0, FTINY, INF, -INF, 0x1.555556p-2));
        rows.narrow("half and twice", 6, row(FTINY, -FTINY, 3 * FTINY, 5 * FTINY), row(), 0,
                row(0.0, -0.0, 2 * FTINY, 2 * FTINY));
        rows.narrow("half and twice", 7, row(0x1p126, 0x1p127, -0x1p127, FBIG, 0x1.fffffep126), row(), 0,
                row(0x1p127, INF, -INF, INF, FBIG));
    }

    private static void reckonedWide() {
        check.says("What a formula reckons is rounded likewise, to the width of its column.");
        rows.wide("half way, beside it, and beyond", 9,
                row(0x1p53, 0x1p53 + 2, 0x1p53, 0x1p53, BIG, BIG, BIG, -BIG, 1, 1),
                row(1, 1, 0x1.0000000000001p0, 0x1.fffffffffffffp-1, 0x1p969, 0x1.fffffffffffffp969, 0x1p970, -0x1p970,
                        0x1p-53, 0x1.0000000000001p-53), 0,
                row(0x1p53, 0x1p53 + 4, 0x1p53 + 2, 0x1p53, BIG, BIG, INF, -INF, 1, 0x1.0000000000001p0));
        rows.wide("taken away", 10, row(0x1p53, -0x1p53, -BIG, BIG, TINY, 0x1p-1022),
                row(-1, 3, 0x1p970, -0x1p969, 2 * TINY, TINY), 0,
                row(0x1p53, -0x1p53 - 4, -INF, BIG, -TINY, 0x1.ffffffffffffep-1023));
        rows.wide("products", 11, row(0x1p-1000, 0x1p-1000, 0x1p-1000, -0x1p-1000, 0x1p1000, -0x1p1000, BIG,
                        3 * TINY, 5 * TINY),
                row(0x1p-74, 0x1p-75, 0x1.0000000000001p-75, 0x1p-75, 0x1p23, 0x1p24, 1, 0.5, 0.5), 0,
                row(TINY, 0.0, TINY, -0.0, 0x1p1023, -INF, BIG, 2 * TINY, 2 * TINY));
        rows.wide("quotients", 12, row(TINY, 3 * TINY, TINY, TINY, BIG, -BIG, 1),
                row(2, 4, 4, 0x1.fffffffffffffp0, 0x1.fffffffffffffp-1, 0.5, 3), 0,
                row(0.0, TINY, 0.0, TINY, INF, -INF, 0x1.5555555555555p-2));
        rows.wide("half", 6, row(TINY, -TINY, 3 * TINY, 5 * TINY), row(), 0, row(0.0, -0.0, 2 * TINY, 2 * TINY));
        rows.wide("twice", 7, row(0x1p1022, 0x1p1023, -0x1p1023, BIG, 0x1.fffffffffffffp1022), row(), 0,
                row(0x1p1023, INF, -INF, INF, BIG));
    }

    /** Comparison c by all that compares: compared, the formulas 17 and 25, and alarms. */
    private static void compare(double x, double y, String table) {
        for (int c = 0; c < 12; c++) {
            boolean so = table.charAt(c) == '1';
            int blanks = BLANK.charAt(c) == '1' ? 15 : 0;
            String call = x + " and " + y + " by " + c;
            TideBook book = new TideBook();
            rows.fill(book, Rows.X, x);
            rows.fill(book, Rows.Y, y);
            check.due("compared " + call, book.compared(Rows.X, c, Rows.Y), blanks + (so ? 1 : 0));
            check.due("formula 17", book.formula(Rows.OUT, 17, Rows.X, Rows.Y, c), 1);
            check.due("17: " + call, book.isBlank(Rows.OUT, 0), !so || Double.isNaN(x));
            check.due("17: " + call, book.reading(Rows.OUT, 0), so && !Double.isNaN(x) ? x : 0.0);
            check.due("formula 25", book.formula(Rows.OUT, 25, Rows.X, Rows.Y, c), 1);
            check.due("25: " + call, book.reading(Rows.OUT, 0), so ? 1.0 : 0.0);
            check.due("alarm", book.alarm(Rows.X, c, Rows.Y), 0);
            check.due("ring: " + call, book.ring(), blanks + (so ? 1 : 0));
            check.due("first: " + call, book.alarmed(0, 2), so ? 0 : blanks > 0 ? 1 : -1);
        }
    }

    private static void comparisons() {
        check.says("A COMPARISON of two readings is told by a number: 0 less, 1 less or equal, 2 greater, "
                + "3 greater or equal, 4 equal, 5 not equal; 6 to 11: it is not so by 0 to 5.");
        compare(1, 2, LESS);
        compare(2, 1, GREATER);
        compare(3, 3, EQUAL);
        compare(-1, -2, GREATER);
        compare(-2, -1, LESS);
        compare(1, 0x1.0000000000001p0, LESS);
        compare(-1, -0x1.0000000000001p0, GREATER);
        compare(TINY, 0.0, GREATER);
        compare(-TINY, -0.0, LESS);
        compare(BIG, INF, LESS);
        compare(-BIG, -INF, GREATER);
        compare(INF, INF, EQUAL);
        compare(-INF, -INF, EQUAL);
        compare(-INF, INF, LESS);
        compare(INF, -INF, GREATER);
    }

    private static void equalZeros() {
        check.says("0 and -0 are equal.");
        compare(0.0, -0.0, EQUAL);
        compare(-0.0, 0.0, EQUAL);
        compare(-0.0, -0.0, EQUAL);
        compare(0.0, 0.0, EQUAL);
    }

    private static void comparedBlanks() {
        check.says("Where one of the two is BLANK (or both are) 0 to 4 are not so, 5 is so, 6 to 10 are so, "
                + "11 is not so.");
        for (double other : new double[] {1, 0.0, -0.0, INF, -INF, BIG, -TINY, B}) {
            compare(B, other, BLANK);
            compare(other, B, BLANK);
        }
    }

    /** Constants by what as special() has it; the column is 0 at all places. */
    private static void comparedWithConstants() {
        check.says("CONSTANTS 0 .. 7 are wide readings");
        String[] tables = {BLANK, LESS, GREATER, EQUAL, LESS, LESS};
        for (int what = 0; what < 6; what++) {
            for (int c = 0; c < 12; c++) {
                TideBook book = new TideBook();
                for (int place = 0; place < 16; place++) {
                    check.due("set", book.set(0, place, 0, 0), 1);
                }
                check.due("constant", book.constantSpecial(7, what), 1);
                int due = tables[what].charAt(c) == '1' ? 16 : 0;
                check.due("alarm", book.alarm(0, c, 23), 0);
                check.due("ring, constant " + what + " by " + c, book.ring(), due);
                check.due("formula", book.formula(1, 25, 0, 23, c), 1);
                check.due("25, constant " + what + " by " + c, book.reading(1, 15), (double) due);
                check.due("formula", book.formula(1, 17, 0, 23, c), 1);
                check.due("17, constant " + what + " by " + c, book.told(1, 2), 16 - due);
            }
        }
    }
}
