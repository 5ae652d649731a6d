/** Each formula with its edges, in wide and narrow columns; NaN stands for BLANK in the rows. */
public final class FormulaTest {
    private static final Check check = new Check("FormulaTest");
    private static final Rows rows = new Rows(check);
    private static final double B = Rows.B;
    private static final double INF = Rows.INF;
    private static final double BIG = Rows.BIG;
    private static final double TINY = Rows.TINY;
    private static final double FBIG = Rows.FBIG;
    private static final double FTINY = Rows.FTINY;

    public static void main(String[] args) {
        ofX();
        ofXRounded();
        sums();
        products();
        quotients();
        remainders();
        tinyRemainders();
        choices();
        signs();
        kept();
        filled();
        middles();
        extremes();
        sorted();
        ranks();
        steps();
        counts();
        multiples();
        broughtFirst();
        constantsAndSameColumn();
        check.end();
    }

    private static double[] row(double... numbers) {
        return numbers;
    }

    private static void ofX() {
        double[] x = row(2.5, -2.5, 3.5, -0.5, 0.5, 0.0, -0.0, INF, -INF, B, 1.5, -1.5, 7, -7, 0.75, -0.75);
        rows.both("x", 0, x, x, 0, x);
        rows.both("size", 1, x, x, 0,
                row(2.5, 2.5, 3.5, 0.5, 0.5, 0.0, 0.0, INF, INF, B, 1.5, 1.5, 7, 7, 0.75, 0.75));
        rows.both("not above", 2, x, x, 0,
                row(2, -3, 3, -1, 0.0, 0.0, -0.0, INF, -INF, B, 1, -2, 7, -7, 0.0, -1));
        rows.both("not below", 3, x, x, 0,
                row(3, -2, 4, -0.0, 1, 0.0, -0.0, INF, -INF, B, 2, -1, 7, -7, 1, -0.0));
        rows.both("nearest", 4, x, x, 0,
                row(2, -2, 4, -0.0, 0.0, 0.0, -0.0, INF, -INF, B, 2, -2, 7, -7, 1, -1));
        rows.both("sign", 5, x, x, 0, row(1, -1, 1, -1, 1, 0.0, -0.0, 1, -1, B, 1, -1, 1, -1, 1, -1));
        rows.both("half", 6, x, x, 0,
                row(1.25, -1.25, 1.75, -0.25, 0.25, 0.0, -0.0, INF, -INF, B, 0.75, -0.75, 3.5, -3.5, 0.375, -0.375));
        rows.both("twice", 7, x, x, 0,
                row(5, -5, 7, -1, 1, 0.0, -0.0, INF, -INF, B, 3, -3, 14, -14, 1.5, -1.5));
        rows.both("other sign", 8, x, x, 0,
                row(-2.5, 2.5, -3.5, 0.5, -0.5, -0.0, 0.0, -INF, INF, B, -1.5, 1.5, -7, 7, -0.75, 0.75));
    }

    private static void ofXRounded() {
        double[] x = row(TINY, BIG, -BIG, 0x1p60, -0x1p60, 1073741822.5, -1073741822.5);
        rows.wide("wholes", 2, x, x, 0, row(0.0, BIG, -BIG, 0x1p60, -0x1p60, 1073741822.0, -1073741823.0));
        rows.wide("wholes", 3, x, x, 0, row(1, BIG, -BIG, 0x1p60, -0x1p60, 1073741823.0, -1073741822.0));
        rows.wide("wholes", 4, x, x, 0, row(0.0, BIG, -BIG, 0x1p60, -0x1p60, 1073741822.0, -1073741822.0));
        rows.wide("half of the least is 0", 6, x, x, 0,
                row(0.0, BIG / 2, -BIG / 2, 0x1p59, -0x1p59, 536870911.25, -536870911.25));
        rows.wide("twice the greatest", 7, x, x, 0,
                row(2 * TINY, INF, -INF, 0x1p61, -0x1p61, 2147483645.0, -2147483645.0));
        double[] n = row(FTINY, -FTINY, 3 * FTINY, FBIG, -FBIG, 8388607.5, -8388607.5, 0x1p23 + 1);
        rows.narrow("half", 6, n, n, 0, row(0.0, -0.0, 2 * FTINY, FBIG / 2, -FBIG / 2, 4194303.75, -4194303.75, 4194304.5));
        rows.narrow("twice", 7, n, n, 0, row(2 * FTINY, -2 * FTINY, 6 * FTINY, INF, -INF, 16777215, -16777215, 16777218));
        rows.narrow("nearest", 4, n, n, 0, row(0.0, -0.0, 0.0, FBIG, -FBIG, 8388608, -8388608, 8388609));
        rows.narrow("not above", 2, n, n, 0, row(0.0, -1, 0.0, FBIG, -FBIG, 8388607, -8388608, 8388609));
        rows.narrow("not below", 3, n, n, 0, row(1, -0.0, 1, FBIG, -FBIG, 8388608, -8388607, 8388609));
    }

    private static void sums() {
        double[] x = row(1, 5, 0.0, -0.0, 0.0, -0.0, INF, INF, -INF, -INF, INF, B, 1, 3, B, -3);
        double[] y = row(2, -5, 0.0, 0.0, -0.0, -0.0, INF, -INF, INF, -INF, 7, 1, B, 3, B, -3);
        rows.both("sum", 9, x, y, 0, row(3, 0.0, 0.0, 0.0, 0.0, -0.0, INF, B, B, -INF, INF, B, B, 6, B, -6));
        rows.both("difference", 10, x, y, 0,
                row(-1, 10, 0.0, -0.0, 0.0, 0.0, B, INF, -INF, B, INF, B, B, 0.0, B, 0.0));
        rows.wide("beyond", 9, row(BIG, -BIG, BIG), row(BIG, -BIG, -BIG), 0, row(INF, -INF, 0.0));
        rows.narrow("beyond", 9, row(FBIG, -FBIG, 16777216, 16777216), row(FBIG, -FBIG, 1, 3), 0,
                row(INF, -INF, 16777216, 16777220));
        rows.wide("no narrow one", 9, row(16777216), row(1), 0, row(16777217));
        rows.wide("rounded", 10, row(0x1p60, 0x1p53, 0x1p53), row(1, -1, -3), 0, row(0x1p60, 0x1p53, 0x1p53 + 4));
    }

    private static void products() {
        double[] x = row(3, -3, 0.0, -0.0, 0.0, -0.0, INF, -INF, 0.0, INF, -INF, B, 2, INF, -INF, -4);
        double[] y = row(5, 5, 2, 2, -2, -2, 2, 2, INF, -0.0, -INF, 2, B, -INF, INF, -4);
        rows.both("product", 11, x, y, 0,
                row(15, -15, 0.0, -0.0, -0.0, 0.0, INF, -INF, B, B, INF, B, B, -INF, -INF, 16));
        rows.wide("ends", 11, row(BIG, BIG, TINY, -TINY, TINY), row(2, -2, 0.5, 0.5, 0.75), 0,
                row(INF, -INF, 0.0, -0.0, TINY));
        rows.narrow("ends", 11, row(FBIG, FBIG, FTINY, -FTINY, FTINY, 16777215), row(2, -2, 0.5, 0.5, 0.75, 16777215), 0,
                row(INF, -INF, 0.0, -0.0, FTINY, (double) (16777215f * 16777215f)));
    }

    private static void quotients() {
        double[] x = row(6, -6, 0.0, -0.0, 0.0, 0.0, 5, -5, 5, INF, INF, 5, -5, INF, B, 5);
        double[] y = row(3, 4, 3, 3, 0.0, -0.0, 0.0, 0.0, -0.0, INF, -0.0, INF, INF, -2, 2, B);
        rows.both("quotient", 12, x, y, 0,
                row(2, -1.5, 0.0, -0.0, B, B, INF, -INF, -INF, B, -INF, 0.0, -0.0, -INF, B, B));
        rows.wide("rounded", 12, row(1, 2, TINY, BIG), row(3, 3, 2, 0.5), 0, row(1.0 / 3, 2.0 / 3, 0.0, INF));
        rows.narrow("rounded", 12, row(1, 2, FTINY, FBIG), row(3, 3, 2, 0.5), 0,
                row((double) (1f / 3f), (double) (2f / 3f), 0.0, INF));
    }

    private static void remainders() {
        double[] x = row(7, -7, 7, -7, 6, -6, 0.0, -0.0, INF, 5, 5, -5, 2.5, B, 5, 1);
        double[] y = row(2, 2, -2, -2, 3, 3, 3, 3, 2, 0.0, INF, -INF, 0.75, 2, B, 8);
        rows.both("remainder", 13, x, y, 0,
                row(1, -1, 1, -1, 0.0, -0.0, 0.0, -0.0, B, B, 5, -5, 0.25, B, B, 1));
        rows.both("remainder", 13, row(INF, -INF, 5, 0.0), row(INF, 0.0, -0.0, 0.0), 0, row(B, B, B, B));
        rows.wide("far apart", 13, row(BIG, BIG, -BIG, 0x1p900, TINY), row(TINY, 3, 7, 1000003, BIG), 0,
                row(0.0, BIG % 3, -BIG % 7, 0x1p900 % 1000003, TINY));
        rows.narrow("far apart", 13, row(FBIG, -FBIG, 0x1p100), row(FTINY, 7, 1000003), 0,
                row(0.0, -FBIG % 7, 0x1p100 % 1000003));
    }

    /** Wide numbers below the least normal one: 2^-1074 times 7, -7, 12 and 9 by 2, 3, 8 and 5. */
    private static void tinyRemainders() {
        int[] sizes = {7, -7, 12, 9, 1 << 30};
        int[] divisors = {2, 3, 8, 5, 1000003};
        TideBook book = new TideBook();
        book.constant(0, 1, -74);
        for (int place = 0; place < sizes.length; place++) {
            book.set(0, place, sizes[place], -1000);
            book.set(1, place, divisors[place], -1000);
            book.set(2, place, sizes[place], -960);
        }
        book.formula(3, 11, 0, 16, 0);
        book.formula(4, 11, 1, 16, 0);
        book.formula(5, 13, 3, 4, 0);
        book.formula(6, 13, 2, 4, 0);
        for (int place = 0; place < sizes.length; place++) {
            check.due("tiny remainder", book.reading(5, place), sizes[place] % divisors[place] * TINY);
            double size = Math.scalb((double) sizes[place], -960);
            check.due("of a tiny one", book.reading(6, place), size % (divisors[place] * TINY));
        }
    }

    private static void choices() {
        double[] x = row(1, 2, 0.0, -0.0, -INF, INF, B, 1, -3);
        double[] y = row(2, 1, -0.0, 0.0, 5, 5, 1, B, -4);
        rows.both("lesser", 14, x, y, 0, row(1, 1, -0.0, -0.0, -INF, 5, B, B, -4));
        rows.both("greater", 15, x, y, 0, row(2, 2, 0.0, 0.0, 5, INF, B, B, -3));
    }

    private static void signs() {
        double[] x = row(1, -1, 0.0, INF, -INF, B, 1, 3, -3, -0.0);
        double[] y = row(-0.0, 0.0, -5, -INF, INF, 1, B, 2, -2, 7);
        rows.both("sign of y", 16, x, y, 0, row(-1, 1, -0.0, -INF, INF, B, B, 3, -3, 0.0));
    }

    private static void kept() {
        double[] x = row(1, 2, 3, 0.0, 4, B, B);
        double[] y = row(2, 1, 3, -0.0, B, 4, B);
        double[][] want = {
            row(1, B, B, B, B, B, B), row(1, B, 3, 0.0, B, B, B), row(B, 2, B, B, B, B, B),
            row(B, 2, 3, 0.0, B, B, B), row(B, B, 3, 0.0, B, B, B), row(1, 2, B, B, 4, B, B),
            row(B, 2, 3, 0.0, 4, B, B), row(B, 2, B, B, 4, B, B), row(1, B, 3, 0.0, 4, B, B),
            row(1, B, B, B, 4, B, B), row(1, 2, B, B, 4, B, B), row(B, B, 3, 0.0, B, B, B)};
        for (int c = 0; c < 12; c++) {
            rows.both("kept by " + c, 17, x, y, c, want[c]);
        }
    }

    private static void filled() {
        rows.both("filled", 18, row(1, B, B, -0.0), row(2, 3, B, 4), 0, row(1, 3, B, -0.0));
    }

    private static void middles() {
        double[] x = row(1, 3, 2, 2, 0.0, -0.0, 0.0, -INF, B, 1, 5, INF, -4, 9, 8, 7);
        rows.both("middle", 19, x, x, 0,
                row(B, 2, 2, 2, 0.0, 0.0, -0.0, B, B, B, 5, 5, 9, 8, 8, B));
    }

    private static void extremes() {
        double[] x = row(B, -0.0, 0.0, B, -1, 3, -INF, 2, INF, B, 1, 1, 1, 1, 1, 1);
        rows.both("greatest", 20, x, x, 0,
                row(B, -0.0, 0.0, 0.0, 0.0, 3, 3, 3, INF, INF, INF, INF, INF, INF, INF, INF));
        rows.both("least", 21, x, x, 0,
                row(B, -0.0, -0.0, -0.0, -1, -1, -INF, -INF, -INF, -INF, -INF, -INF, -INF, -INF, -INF, -INF));
        rows.both("all blank", 20, row(), row(), 0, row());
        rows.both("all blank", 21, row(), row(), 0, row());
        rows.both("least goes from 0 to -0", 21, row(0.0, -0.0), row(), 0,
                row(0.0, -0.0, -0.0, -0.0, -0.0, -0.0, -0.0, -0.0, -0.0, -0.0, -0.0, -0.0, -0.0, -0.0, -0.0, -0.0));
    }

    private static void sorted() {
        double[] x = row(B, 3, 0.0, -0.0, B, -INF, INF, 2, 2, -7, 0.0, -0.0, B, 1, 5, -1);
        rows.both("sorted", 22, x, x, 0,
                row(-INF, -7, -1, -0.0, -0.0, 0.0, 0.0, 1, 2, 2, 3, 5, INF));
        double[] down = new double[16];
        double[] up = new double[16];
        for (int place = 0; place < 16; place++) {
            down[place] = 16 - place;
            up[place] = place + 1;
        }
        rows.both("sorted, all", 22, down, down, 0, up);
        rows.both("sorted, all", 22, up, up, 0, up);
        rows.both("sorted, none", 22, row(), row(), 0, row());
        rows.both("sorted, the last", 22, row(B, B, B, B, B, B, B, B, B, B, B, B, B, B, B, 4), row(), 0, row(4));
    }

    private static void ranks() {
        double[] x = row(B, 3, 0.0, -0.0, B, -INF, INF, 2, 2);
        rows.both("how many are less", 23, x, x, 0, row(B, 5, 1, 1, B, 0.0, 6, 3, 3));
    }

    private static void steps() {
        double[] x = row(1, 4, 4, B, 2, INF, INF, -INF, -INF, -0.0, 0.0, -0.0, -0.0, 0.0, 0.0, 5);
        rows.both("steps", 24, x, x, 0,
                row(B, 3, 0.0, B, B, INF, B, -INF, B, INF, 0.0, -0.0, 0.0, 0.0, 0.0, 5));
        rows.narrow("rounded", 24, row(-1, 16777216, FBIG, -FBIG), row(), 0, row(B, 16777216, FBIG, -INF));
        rows.wide("rounded", 24, row(-1, 16777216, FBIG, -FBIG), row(), 0,
                row(B, 16777217, FBIG, -2 * FBIG));
    }

    private static void counts() {
        double[] x = row(1, 2, 3, 0.0, 4, B, B);
        double[] y = row(2, 1, 3, -0.0, B, 4, B);
        rows.both("less so far", 25, x, y, 0, row(1, 1, 1, 1, 1, 1, 1, 1, 1, 1, 1, 1, 1, 1, 1, 1));
        rows.both("equal so far", 25, x, y, 4, row(0.0, 0.0, 1, 2, 2, 2, 2, 2, 2, 2, 2, 2, 2, 2, 2, 2));
        rows.both("not equal so far", 25, x, y, 5, row(1, 2, 2, 2, 3, 4, 5, 6, 7, 8, 9, 10, 11, 12, 13, 14));
        rows.both("not less so far", 25, x, y, 6, row(0.0, 1, 2, 3, 4, 5, 6, 7, 8, 9, 10, 11, 12, 13, 14, 15));
        rows.both("blank both", 25, row(), row(), 11,
                row(0.0, 0.0, 0.0, 0.0, 0.0, 0.0, 0.0, 0.0, 0.0, 0.0, 0.0, 0.0, 0.0, 0.0, 0.0, 0.0));
    }

    private static void multiples() {
        double[] x = row(7, -7, 5, 1, -1, 0.0, -0.0, INF, -INF, INF, 3, 3, 3, B, 3, -1);
        double[] y = row(2, 2, -2, 4, 4, 4, -4, 2, 2, -2, 0.0, -0.0, INF, 2, B, -4);
        rows.both("to a multiple", 26, x, y, 0,
                row(8, -8, 4, 0.0, -0.0, 0.0, -0.0, INF, -INF, INF, B, B, B, B, B, -0.0));
        rows.wide("ends", 26, row(BIG, -BIG, BIG, TINY, 1), row(TINY, TINY, BIG, BIG, 3 * 0x1p-3), 0,
                row(INF, -INF, BIG, 0.0, 1.125));
        rows.narrow("ends", 26, row(FBIG, -FBIG, FBIG, FTINY), row(FTINY, FTINY, FBIG, FBIG), 0,
                row(INF, -INF, FBIG, 0.0));
        rows.both("infinite both", 26, row(INF, 0.0), row(INF, INF), 0, row(B, B));
    }

    /** x and y are brought to the column's width before they are reckoned with. */
    private static void broughtFirst() {
        TideBook book = new TideBook();
        book.set(0, 0, 16777217, 0);
        book.set(0, 1, 1, 200);
        book.set(0, 2, 1, -200);
        book.constant(0, 16777217, 0);
        for (int column = 1; column < 12; column++) {
            book.width(column, true);
        }
        book.formula(1, 10, 0, 16, 0);
        check.due("both brought", book.reading(1, 0), 0.0);
        book.formula(2, 17, 0, 16, 4);
        check.due("compared when brought", book.reading(2, 0), 16777216.0);
        book.formula(3, 6, 0, 16, 0);
        check.due("infinite before it is halved", book.reading(3, 1), INF);
        book.formula(4, 12, 0, 0, 0);
        check.due("infinite by infinite", book.isBlank(4, 1), true);
        check.due("0 by 0", book.isBlank(4, 2), true);
        book.formula(5, 18, 0, 16, 0);
        check.due("the constant brought", book.reading(5, 9), 16777216.0);
        book.set(0, 3, 16777216, 0);
        book.formula(6, 23, 0, 16, 0);
        check.due("other places brought", book.reading(6, 0), 1.0);
        book.formula(7, 20, 0, 16, 0);
        check.due("greatest of the brought", book.reading(7, 0), 16777216.0);
        book.formula(8, 25, 0, 16, 2);
        check.due("counted when brought", book.reading(8, 0), 0.0);
        book.width(8, false);
        check.due("not brought when wide", book.reading(8, 15), 1.0);
    }

    private static void constantsAndSameColumn() {
        TideBook book = new TideBook();
        book.set(0, 0, 3, 0);
        book.set(0, 15, -3, 0);
        book.constant(7, 2, 0);
        book.formula(1, 11, 0, 23, 0);
        check.due("3 * 2", book.reading(1, 0), 6.0);
        check.due("-3 * 2", book.reading(1, 15), -6.0);
        book.formula(2, 11, 1, 1, 0);
        check.due("6 * 6", book.reading(2, 0), 36.0);
        check.due("-6 * -6", book.reading(2, 15), 36.0);
        check.due("blank", book.isBlank(2, 7), true);
    }
}
