/** The boundary cases that the document's "Terms" name of COLUMNS and FORMULAS, sentence by sentence. */
public final class BoundaryFormulasTest {
    private static final Check check = new Check("BoundaryFormulasTest");
    private static final Rows rows = new Rows(check);
    private static final double B = Rows.B;
    private static final double INF = Rows.INF;
    private static final double BIG = Rows.BIG;
    private static final double TINY = Rows.TINY;
    private static final double FBIG = Rows.FBIG;
    private static final double FTINY = Rows.FTINY;
    private static final double[] NONE = {};

    public static void main(String[] args) {
        whichCount();
        placeByPlace();
        broughtFirst();
        blankX();
        blankY();
        zeroSums();
        signsOfProducts();
        signsOfMultiples();
        plainOnes();
        wholes();
        wholeSigns();
        sizes();
        sums();
        differences();
        products();
        quotients();
        remainders();
        remainderEdges();
        choices();
        signs();
        kept();
        filled();
        middles();
        greatest();
        least();
        sorted();
        zerosInOrder();
        ranks();
        steps();
        counts();
        multiples();
        check.end();
    }

    private static double[] row(double... numbers) {
        return numbers;
    }

    private static String seen(TideBook book, int column) {
        StringBuilder text = new StringBuilder();
        for (int place = 0; place < 16; place++) {
            text.append(book.isBlank(column, place) ? "blank" : Long.toHexString(book.bits(column, place)));
            text.append(' ');
        }
        return text.toString();
    }

    private static boolean takesY(int f) {
        return f >= 9 && f <= 18 || f >= 25;
    }

    private static boolean takesC(int f) {
        return f == 17 || f == 25;
    }

    private static void whichCount() {
        check.says("(f tells which of them count.)");
        for (int f = 0; f <= 26; f++) {
            TideBook book = new TideBook();
            rows.fill(book, Rows.X, 3, B, -0.0, 7.5, INF, -2, 4, 4, -INF, 1, B, 2);
            rows.fill(book, Rows.Y, 2, 1, 5, B, 3, INF, 4, -4, 6, 1, B, 0.0);
            check.due("formula", book.formula(7, f, Rows.X, Rows.Y, 0), 1);
            String first = seen(book, 7);
            check.due("other c", book.formula(8, f, Rows.X, Rows.Y, 8), 1);
            check.due("formula " + f + ": c counts", !seen(book, 8).equals(first), takesC(f));
            check.due("other b", book.formula(9, f, Rows.X, Rows.X, 0), 1);
            check.due("formula " + f + ": b counts", !seen(book, 9).equals(first), takesY(f));
            check.due("blank b", book.formula(10, f, Rows.X, 23, 0), 1);
            check.due("formula " + f + ": a blank b counts", !seen(book, 10).equals(first), takesY(f));
        }
    }

    private static void placeByPlace() {
        check.says("At place i x is a's reading there, y that of b there (or the constant)");
        TideBook book = new TideBook();
        double[] x = new double[16];
        double[] y = new double[16];
        double[] sum = new double[16];
        double[] more = new double[16];
        for (int place = 0; place < 16; place++) {
            x[place] = place * place + 1;
            y[place] = 1000 * place;
            sum[place] = x[place] + y[place];
            more[place] = x[place] + 0.25;
        }
        rows.fill(book, Rows.X, x);
        rows.fill(book, Rows.Y, y);
        check.due("constants", book.constant(0, 1, -2) + book.constant(7, -1, -2), 2);
        check.due("of columns", book.formula(7, 9, Rows.X, Rows.Y, 0), 1);
        rows.look("of columns", book, 7, false, sum);
        check.due("of constant 0", book.formula(8, 9, Rows.X, 16, 0), 1);
        rows.look("of constant 0", book, 8, false, more);
        check.due("of constant 7", book.formula(9, 9, Rows.X, 23, 0), 1);
        check.due("first place", book.reading(9, 0), 0.75);
        check.due("last place", book.reading(9, 15), 225.75);
        check.due("the same column twice", book.formula(10, 10, Rows.X, Rows.X, 0), 1);
        rows.look("the same column twice", book, 10, false, Rows.same(0.0));
    }

    private static void broughtFirst() {
        check.says("both brought to the column's width");
        double[] x = row(16777217, 16777219, 0x1p200, -0x1p200, 0x1p-200, -0x1p-200, 0x1p127);
        double[] y = row(16777216, 16777220, 0x1p200, 0x1p200, 0x1p-200, 0x1p-200, 0x1.ffffffp127);
        rows.narrow("difference", 10, x, y, 0, row(0.0, 0.0, B, -INF, 0.0, -0.0, -INF));
        rows.narrow("quotient", 12, x, y, 0, row(1, 1, B, B, B, B, 0.0));
        rows.narrow("product", 11, x, row(1, 1, 0x1p-200, 0.5, 0x1p100, 0x1p-100, 0x1p-200), 0,
                row(16777216, 16777220, B, -INF, 0.0, -0.0, 0.0));
        rows.narrow("half", 6, row(0x1p128, 0x1p-150), NONE, 0, row(INF, 0.0));
        rows.narrow("twice", 7, row(0x1p127, 0x1p-150), NONE, 0, row(INF, 0.0));
        rows.narrow("sign", 5, row(0x1p-150, -0x1p-150, 0x1p-149), NONE, 0, row(0.0, -0.0, 1));
        rows.narrow("not below", 3, row(0x1p-150, -0x1p-150, 16777216.5), NONE, 0, row(0.0, -0.0, 16777216));
        rows.narrow("nearest", 4, row(0x1.000001p-1, 0x1.0000010000001p-1), NONE, 0, row(0.0, 1));
        rows.narrow("equal when brought", 17, x, y, 4, row(16777216, 16777220, INF, B, 0.0, -0.0));
        rows.narrow("counted when brought", 25, x, y, 4, row(1, 2, 3, 3, 4, 5, 5, 5, 5, 5, 5, 5, 5, 5, 5, 5));
        rows.narrow("ranked when brought", 23, row(16777217, 16777216, 0x1p200, 0x1p201), NONE, 0, row(0.0, 0.0, 2, 2));
        rows.narrow("steps", 24, row(16777216, 16777217, 16777219, 0x1p200, 0x1p200), NONE, 0, row(B, 0.0, 4, INF, B));
        rows.narrow("remainder", 13, row(16777217, 0x1p128, 7, 7), row(2, 2, 0x1p-150, 0x1p128), 0, row(0.0, B, B, 7));
        rows.narrow("multiple", 26, row(16777217, 7, 7), row(16777216, 0x1p-150, 0x1p128), 0, row(16777216, B, B));
        rows.narrow("y's sign", 16, row(1, 1), row(-0x1p-200, -0x1p200), 0, row(-1, -1));
        rows.narrow("other places", 22, row(0x1p200, -0x1p-200, 0x1p-200, -0x1p200), NONE, 0,
                row(-INF, -0.0, 0.0, INF));
    }

    private static boolean blankWithX(int f) {
        return f <= 17 || f == 23 || f == 24 || f == 26;
    }

    private static void blankX() {
        check.says("By 0 to 17, 23, 24, 26 it is BLANK where x is");
        for (int f = 0; f <= 26; f++) {
            for (int place = 0; place < 16; place += 5) {
                double[] x = Rows.same(4);
                x[place] = B;
                TideBook book = new TideBook();
                rows.fill(book, Rows.X, x);
                rows.fill(book, Rows.Y, Rows.same(2));
                check.due("formula", book.formula(7, f, Rows.X, Rows.Y, 2), 1);
                boolean blank = blankWithX(f) || f == 19 || f >= 20 && f <= 22 && place == (f == 22 ? 15 : 0);
                check.due("formula " + f + ", x blank at " + place, book.isBlank(7, place), blank);
            }
        }
    }

    private static void blankY() {
        check.says("by 9 to 16, 26 also where y is.");
        for (int f = 0; f <= 26; f++) {
            for (int place = 0; place < 16; place += 5) {
                double[] y = Rows.same(2);
                y[place] = B;
                TideBook book = new TideBook();
                rows.fill(book, Rows.X, Rows.same(4));
                rows.fill(book, Rows.Y, y);
                check.due("formula", book.formula(7, f, Rows.X, Rows.Y, 5), 1);
                boolean blank = f >= 9 && f <= 16 || f == 26 || f == 19 && place % 15 == 0 || f == 24 && place == 0;
                check.due("formula " + f + ", y blank at " + place, book.isBlank(7, place), blank);
            }
        }
    }

    private static void zeroSums() {
        check.says("A 0 that comes of 9, 10, 24 is -0 just if both that are added are -0 "
                + "(10, 24: what is taken away with its other sign)");
        double[] x = row(0.0, 0.0, -0.0, -0.0, 5, -5, FBIG, FTINY, -FTINY, 0x1p-126);
        rows.both("added", 9, x, row(0.0, -0.0, 0.0, -0.0, -5, 5, -FBIG, -FTINY, FTINY, -0x1p-126), 0,
                row(0.0, 0.0, 0.0, -0.0, 0.0, 0.0, 0.0, 0.0, 0.0, 0.0));
        rows.both("taken away", 10, x, row(0.0, -0.0, 0.0, -0.0, 5, -5, FBIG, FTINY, -FTINY, 0x1p-126), 0,
                row(0.0, 0.0, -0.0, 0.0, 0.0, 0.0, 0.0, 0.0, 0.0, 0.0));
        rows.both("steps", 24, row(0.0, 0.0, -0.0, -0.0, 0.0, 5, 5, -5, -5, -0.0), NONE, 0,
                row(B, 0.0, -0.0, 0.0, 0.0, 5, 0.0, -10, 0.0, 5));
        rows.wide("ends", 9, row(BIG, -BIG, TINY, -TINY), row(-BIG, BIG, -TINY, TINY), 0, row(0.0, 0.0, 0.0, 0.0));
    }

    private static void signsOfProducts() {
        check.says("of 11, 12 it, and what is infinite, has a - just if one of x and y has one");
        rows.both("products of 0", 11, row(0.0, 0.0, -0.0, -0.0, 0.0, 0.0, -0.0, -0.0, 3, -3, 3, -3, FBIG),
                row(0.0, -0.0, 0.0, -0.0, 3, -3, 3, -3, 0.0, 0.0, -0.0, -0.0, -0.0), 0,
                row(0.0, -0.0, -0.0, 0.0, 0.0, -0.0, -0.0, 0.0, 0.0, -0.0, -0.0, 0.0, -0.0));
        rows.both("infinite products", 11, row(INF, INF, -INF, -INF, INF, INF, -INF, -INF, 3, -3, 3, -3),
                row(INF, -INF, INF, -INF, 3, -3, 3, -3, INF, INF, -INF, -INF), 0,
                row(INF, -INF, -INF, INF, INF, -INF, -INF, INF, INF, -INF, -INF, INF));
        rows.both("quotients of 0", 12, row(0.0, 0.0, -0.0, -0.0, 0.0, -0.0, 0.0, -0.0, 3, -3, 3, -3),
                row(3, -3, 3, -3, INF, INF, -INF, -INF, INF, INF, -INF, -INF), 0,
                row(0.0, -0.0, -0.0, 0.0, 0.0, -0.0, -0.0, 0.0, 0.0, -0.0, -0.0, 0.0));
        rows.both("infinite quotients", 12, row(INF, INF, -INF, -INF, INF, INF, -INF, -INF, 3, 3, -3, -3),
                row(3, -3, 3, -3, 0.0, -0.0, 0.0, -0.0, 0.0, -0.0, 0.0, -0.0), 0,
                row(INF, -INF, -INF, INF, INF, -INF, -INF, INF, INF, -INF, -INF, INF));
        double[] signs = row(1, -1, -1, 1);
        ends(11, BIG, 2, FBIG, 2, signs, INF);
        ends(11, TINY, 0.5, FTINY, 0.5, signs, 0.0);
        ends(12, BIG, 0.5, FBIG, 0.5, signs, INF);
        ends(12, TINY, 2, FTINY, 2, signs, 0.0);
    }

    /** A number at an end of its width and another, with all signs, give 0 or an infinite one. */
    private static void ends(int f, double wide, double y, double narrow, double y2, double[] signs, double size) {
        double[] want = new double[4];
        for (int k = 0; k < 4; k++) {
            want[k] = signs[k] < 0 ? -size : size;
        }
        rows.wide("ends", f, row(wide, wide, -wide, -wide), row(y, -y, y, -y), 0, want);
        rows.narrow("ends", f, row(narrow, narrow, -narrow, -narrow), row(y2, -y2, y2, -y2), 0, want);
    }

    private static void signsOfMultiples() {
        check.says("of 26 it has x's sign.");
        rows.both("multiples", 26, row(0.0, 0.0, -0.0, -0.0, 1, 1, -1, -1, 2, -2, FTINY, -FTINY),
                row(4, -4, 4, -4, 4, -4, 4, -4, 4, -4, -FBIG, -FBIG), 0,
                row(0.0, 0.0, -0.0, -0.0, 0.0, 0.0, -0.0, -0.0, 0.0, -0.0, 0.0, -0.0));
    }

    private static void plainOnes() {
        double[] x = row(0.0, -0.0, INF, -INF, B, FTINY, -FTINY, FBIG, -FBIG, 1, -1, B, 0x1p-126, 2.5, -2.5, -7);
        check.says("0 x.");
        rows.both("x", 0, x, NONE, 0, x);
        rows.wide("ends", 0, row(BIG, -BIG, TINY, -TINY), NONE, 0, row(BIG, -BIG, TINY, -TINY));
        check.says("1 x without its sign.");
        rows.both("without its sign", 1, x, NONE, 0,
                row(0.0, 0.0, INF, INF, B, FTINY, FTINY, FBIG, FBIG, 1, 1, B, 0x1p-126, 2.5, 2.5, 7));
        rows.wide("ends", 1, row(-BIG, -TINY), NONE, 0, row(BIG, TINY));
        check.says("8 x with the other sign.");
        rows.both("with the other sign", 8, x, NONE, 0, Rows.minus(x));
        rows.wide("ends", 8, row(-BIG, TINY), NONE, 0, row(BIG, -TINY));
    }

    private static void wholes() {
        check.says("2 the greatest whole number not above x, 3 the least one not below x, "
                + "4 the whole number nearest to x, of two the even one");
        double[] x = row(0.5, 1.5, 2.5, -0.5, -1.5, -2.5, 3, -3, FTINY, -FTINY, 0x1.fffffep-1, 0x1.fffffep-2,
                0x1.000002p-1, 0x1p23 - 0.5, 0x1p23 - 1.5, 0x1p23 + 1);
        rows.both("not above", 2, x, NONE, 0, row(0.0, 1, 2, -1, -2, -3, 3, -3, 0.0, -1, 0.0, 0.0, 0.0,
                0x1p23 - 1, 0x1p23 - 2, 0x1p23 + 1));
        rows.both("not below", 3, x, NONE, 0, row(1, 2, 3, -0.0, -1, -2, 3, -3, 1, -0.0, 1, 1, 1,
                0x1p23, 0x1p23 - 1, 0x1p23 + 1));
        rows.both("nearest", 4, x, NONE, 0, row(0.0, 2, 2, -0.0, -2, -2, 3, -3, 0.0, -0.0, 1, 0.0, 1,
                0x1p23, 0x1p23 - 2, 0x1p23 + 1));
        double[] far = row(0x1p52 - 0.5, 0x1p52 - 1.5, 0x1p52, 0x1p52 + 1, 0x1p53, 0x1p62, 0x1p63, 0x1p64, BIG,
                0x1.fffffffffffffp-2, 0x1.0000000000001p-1, 0x1p51 + 0.5, 0x1p51 + 1.5, 0x1p31 + 0.5,
                0x1.fffffffffffffp-1, TINY);
        double[] above = row(0x1p52, 0x1p52 - 1, 0x1p52, 0x1p52 + 1, 0x1p53, 0x1p62, 0x1p63, 0x1p64, BIG,
                1, 1, 0x1p51 + 1, 0x1p51 + 2, 0x1p31 + 1, 1, 1);
        double[] below = row(0x1p52 - 1, 0x1p52 - 2, 0x1p52, 0x1p52 + 1, 0x1p53, 0x1p62, 0x1p63, 0x1p64, BIG,
                0.0, 0.0, 0x1p51, 0x1p51 + 1, 0x1p31, 0.0, 0.0);
        double[] near = row(0x1p52, 0x1p52 - 2, 0x1p52, 0x1p52 + 1, 0x1p53, 0x1p62, 0x1p63, 0x1p64, BIG,
                0.0, 1, 0x1p51, 0x1p51 + 2, 0x1p31, 1, 0.0);
        rows.wide("not above", 2, far, NONE, 0, below);
        rows.wide("not above, -", 2, Rows.minus(far), NONE, 0, Rows.minus(above));
        rows.wide("not below", 3, far, NONE, 0, above);
        rows.wide("not below, -", 3, Rows.minus(far), NONE, 0, Rows.minus(below));
        rows.wide("nearest", 4, far, NONE, 0, near);
        rows.wide("nearest, -", 4, Rows.minus(far), NONE, 0, Rows.minus(near));
    }

    private static void wholeSigns() {
        check.says("(2 to 4: x itself, if it is infinite;");
        for (int f = 2; f <= 4; f++) {
            rows.both("x itself", f, row(INF, -INF), NONE, 0, row(INF, -INF));
        }
        check.says("with x's sign, if it is 0).");
        for (int f = 2; f <= 4; f++) {
            rows.both("0 itself", f, row(0.0, -0.0), NONE, 0, row(0.0, -0.0));
        }
        rows.both("0 of x above 0", 2, row(0.25, 0.5, 0.75, FTINY), NONE, 0, row(0.0, 0.0, 0.0, 0.0));
        rows.both("-0 of x below 0", 3, row(-0.25, -0.5, -0.75, -FTINY), NONE, 0, row(-0.0, -0.0, -0.0, -0.0));
        rows.both("either", 4, row(0.25, 0.5, -0.25, -0.5, FTINY, -FTINY), NONE, 0,
                row(0.0, 0.0, -0.0, -0.0, 0.0, -0.0));
    }

    private static void sizes() {
        check.says("5 1 or -1, as x is above or below 0, else x.");
        double[] x = row(FTINY, -FTINY, 0.0, -0.0, INF, -INF, FBIG, -FBIG, 1, -1, 2, -2, B, 0x1p-126);
        rows.both("1 or -1", 5, x, NONE, 0, row(1, -1, 0.0, -0.0, 1, -1, 1, -1, 1, -1, 1, -1, B, 1));
        rows.wide("1 or -1", 5, row(TINY, -TINY, BIG, -BIG), NONE, 0, row(1, -1, 1, -1));
        double[] y = row(0.0, -0.0, INF, -INF, 1, -1, B, 0x1p-126, 3);
        check.says("6 x / 2.");
        rows.both("half", 6, y, NONE, 0, row(0.0, -0.0, INF, -INF, 0.5, -0.5, B, 0x1p-127, 1.5));
        rows.wide("half of the least", 6, row(TINY, -TINY, 3 * TINY), NONE, 0, row(0.0, -0.0, 2 * TINY));
        rows.narrow("half of the least", 6, row(FTINY, -FTINY, 3 * FTINY), NONE, 0, row(0.0, -0.0, 2 * FTINY));
        check.says("7 2 * x.");
        rows.both("twice", 7, y, NONE, 0, row(0.0, -0.0, INF, -INF, 2, -2, B, 0x1p-125, 6));
        rows.wide("twice the greatest", 7, row(BIG, -BIG, 0x1p1022), NONE, 0, row(INF, -INF, 0x1p1023));
        rows.narrow("twice the greatest", 7, row(FBIG, -FBIG, 0x1p126), NONE, 0, row(INF, -INF, 0x1p127));
    }

    private static void sums() {
        check.says("9 x + y; BLANK, if they are infinite with unlike signs.");
        rows.both("infinite", 9, row(INF, INF, -INF, -INF, INF, -INF, 5, 5, INF, -INF, 0.0, FBIG, -FBIG),
                row(INF, -INF, INF, -INF, 5, 5, INF, -INF, -FBIG, FBIG, -INF, -INF, INF), 0,
                row(INF, B, B, -INF, INF, -INF, INF, -INF, INF, -INF, -INF, -INF, INF));
    }

    private static void differences() {
        check.says("10 x - y; BLANK, if they are infinite with like signs.");
        rows.both("infinite", 10, row(INF, INF, -INF, -INF, INF, -INF, 5, 5, INF, -INF, 0.0, FBIG, -FBIG),
                row(INF, -INF, INF, -INF, 5, 5, INF, -INF, FBIG, -FBIG, -INF, INF, -INF), 0,
                row(B, INF, -INF, B, INF, -INF, -INF, INF, INF, -INF, INF, -INF, INF));
    }

    private static void products() {
        check.says("11 x * y; BLANK, if one is 0 (or -0) and one infinite.");
        rows.both("0 and infinite", 11, row(0.0, 0.0, -0.0, -0.0, INF, INF, -INF, -INF, 0.0, INF, FTINY, INF),
                row(INF, -INF, INF, -INF, 0.0, -0.0, 0.0, -0.0, 0.0, INF, INF, FTINY), 0,
                row(B, B, B, B, B, B, B, B, 0.0, INF, INF, INF));
    }

    private static void quotients() {
        check.says("12 x / y; BLANK, if both are 0 (or -0), or both infinite;");
        rows.both("both 0, both infinite", 12, row(0.0, 0.0, -0.0, -0.0, INF, INF, -INF, -INF),
                row(0.0, -0.0, 0.0, -0.0, INF, -INF, INF, -INF), 0, row(B, B, B, B, B, B, B, B));
        check.says("by 0 it is infinite.");
        rows.both("by 0", 12, row(1, 1, -1, -1, FTINY, FBIG, INF, -INF, INF),
                row(0.0, -0.0, 0.0, -0.0, 0.0, -0.0, 0.0, 0.0, -0.0), 0,
                row(INF, -INF, -INF, INF, INF, -INF, INF, -INF, -INF));
        rows.both("0 and infinite", 12, row(0.0, INF, -0.0, -INF), row(INF, 0.0, -INF, -0.0), 0,
                row(0.0, INF, 0.0, INF));
    }

    private static void remainders() {
        check.says("13 what x leaves, when y is taken from it as often as it goes, towards 0 "
                + "(exactly; with x's sign)");
        rows.both("as often as it goes", 13, row(7, -7, 7, -7, 6, -6, 5, -5, 0.0, -0.0, 8, -8, 0x1p100, -0x1p100),
                row(4, 4, -4, -4, 6, 6, 6, -6, 3, -3, 0x1.fffffep2, 0x1.000002p3, 3, -5), 0,
                row(3, -3, 3, -3, 0.0, -0.0, 5, -5, 0.0, -0.0, 0x1p-21, -8, 1, -1));
        rows.both("of parts of 1", 13, row(0.75, 0.75, -0.75, -0.75, 0.25, -0.25, 1, -1),
                row(0.5, -0.5, 0.5, -0.5, -0.5, -0.5, -0.75, -0.25), 0,
                row(0.25, 0.25, -0.25, -0.25, 0.25, -0.25, 0.25, -0.0));
        rows.wide("exactly", 13, row(BIG, -BIG, BIG, BIG, TINY, 0x1p1023, -0x1p1023, 0x1.0000000000001p0,
                        0x1.fffffffffffffp-1022, 0x1p-1022, 3 * TINY, -3 * TINY, 0x1p-1021),
                row(TINY, TINY, BIG, 0x1.ffffffffffffep1023, BIG, 3, 5, 1,
                        0x1p-1022, 0x1.ffffffffffffep-1023, 2 * TINY, 2 * TINY, 3 * TINY), 0,
                row(0.0, -0.0, 0.0, 0x1p971, TINY, 2, -3, 0x1p-52,
                        0x1.ffffffffffffep-1023, TINY, TINY, -TINY, 2 * TINY));
        rows.narrow("exactly", 13, row(FBIG, -FBIG, FBIG, FBIG, FTINY, 0x1p127, -0x1p127, 0x1.000002p0, 3 * FTINY),
                row(FTINY, FTINY, FBIG, 0x1.fffffcp127, FBIG, 3, 5, 1, 2 * FTINY), 0,
                row(0.0, -0.0, 0.0, 0x1p104, FTINY, 2, -3, 0x1p-23, FTINY));
    }

    private static void remainderEdges() {
        check.says("BLANK, if y is 0 (or -0), or x infinite;");
        rows.both("y is 0, or x infinite", 13, row(5, 5, 0.0, -0.0, INF, -INF, INF, -INF, INF, -INF, INF),
                row(0.0, -0.0, 0.0, -0.0, 5, 5, 0.0, -0.0, INF, INF, -INF), 0,
                row(B, B, B, B, B, B, B, B, B, B, B));
        check.says("x, if y alone is infinite.");
        rows.both("y alone is infinite", 13, row(5, -5, 0.0, -0.0, FBIG, -FTINY),
                row(INF, INF, -INF, INF, INF, -INF), 0, row(5, -5, 0.0, -0.0, FBIG, -FTINY));
    }

    private static void choices() {
        check.says("14 the lesser, 15 the greater of x and y (-0 is less than 0 there).");
        double[] x = row(0.0, -0.0, 0.0, -0.0, INF, -INF, INF, -FTINY, FTINY, 3, -3, 3, -INF);
        double[] y = row(-0.0, 0.0, 0.0, -0.0, FBIG, -FBIG, -INF, -0.0, 0.0, 3, 3, -3, -INF);
        rows.both("lesser", 14, x, y, 0, row(-0.0, -0.0, 0.0, -0.0, FBIG, -INF, -INF, -FTINY, 0.0, 3, -3, -3, -INF));
        rows.both("greater", 15, x, y, 0, row(0.0, 0.0, 0.0, -0.0, INF, -FBIG, INF, -0.0, FTINY, 3, 3, 3, -INF));
    }

    private static void signs() {
        check.says("16 x with y's sign.");
        rows.both("y's sign", 16, row(3, 3, -3, -3, 0.0, -0.0, INF, -INF, 3, 3, -3, FTINY, -FBIG),
                row(0.0, -0.0, 0.0, -0.0, -1, 1, -0.0, 0.0, -INF, INF, FTINY, -FTINY, 1), 0,
                row(3, -3, 3, -3, -0.0, 0.0, -INF, INF, -3, 3, 3, -FTINY, FBIG));
    }

    private static void kept() {
        check.says("17 x, if comparison c of x and y is so, else BLANK.");
        double[] x = row(-0.0, 0.0, INF, 5, B, B, -INF);
        double[] y = row(0.0, -0.0, INF, B, 5, B, INF);
        rows.both("less", 17, x, y, 0, row(B, B, B, B, B, B, -INF));
        rows.both("equal", 17, x, y, 4, row(-0.0, 0.0, INF));
        rows.both("not equal", 17, x, y, 5, row(B, B, B, 5, B, B, -INF));
        rows.both("not less", 17, x, y, 6, row(-0.0, 0.0, INF, 5));
        rows.both("not (not equal)", 17, x, y, 11, row(-0.0, 0.0, INF));
    }

    private static void filled() {
        check.says("18 x, but y, if x is BLANK.");
        rows.both("x or y", 18, row(B, B, 1, -0.0, B, B, 0.0, B), row(B, 2, B, 5, -0.0, -INF, 7, FTINY), 0,
                row(B, 2, 1, -0.0, -0.0, -INF, 0.0, FTINY));
        double[] all = row(5, 1, 9, -2, 0.0, -0.0, 8, 3, 7, INF, -INF, 6, 2, 4, FBIG, -5);
        rows.both("x at all places", 18, all, Rows.same(1), 0, all);
        rows.both("x nowhere", 18, NONE, all, 0, all);
        rows.both("both nowhere", 18, NONE, NONE, 0, NONE);
    }

    private static void middles() {
        check.says("19 the middle one, by size, of x at the places i - 1, i, i + 1;");
        rows.both("all orders", 19, row(1, 2, 3, 1, 2, 1, 3, 2, 1, 9, 9, 9, -4, 5, -6, 7), NONE, 0,
                row(B, 2, 2, 2, 1, 2, 2, 2, 2, 9, 9, 9, 5, -4, 5, B));
        rows.both("by order, not without sign", 19, row(-9, 1, 2, -INF, INF, 3, INF, INF), NONE, 0,
                row(B, 1, 1, 2, 3, INF, INF));
        check.says("BLANK, if one of them is BLANK, and at the places 0 and 15.");
        rows.both("blanks around", 19, row(1, 2, 3, 4, B, 5, 6, 7, B, B, 8, 9, 10, 11, 12, B), NONE, 0,
                row(B, 2, 3, B, B, B, 6, B, B, B, B, 9, 10, 11));
        rows.both("at 0 and 15", 19, row(B, 2, 3, 4, 5, 6, 7, 8, 9, 10, 11, 12, 13, 14, 15, B), NONE, 0,
                row(B, B, 3, 4, 5, 6, 7, 8, 9, 10, 11, 12, 13, 14));
    }

    private static void zerosInOrder() {
        check.says("(19 to 22: -0 is less than 0.)");
        rows.both("middle", 19, row(0.0, -0.0, -0.0, 0.0, 0.0, -0.0, 0.0, -0.0, -1, 0.0, -0.0, 1, 0.0), NONE, 0,
                row(B, -0.0, -0.0, 0.0, 0.0, 0.0, -0.0, -0.0, -0.0, -0.0, 0.0, 0.0));
        rows.both("greatest", 20, row(-INF, -FBIG, -0.0, B, -0.0, 0.0, -0.0, B, FTINY, 0.0, 1, B, FBIG, INF, 2, -INF),
                NONE, 0, row(-INF, -FBIG, -0.0, -0.0, -0.0, 0.0, 0.0, 0.0, FTINY, FTINY, 1, 1, FBIG, INF, INF, INF));
        rows.both("least", 21, row(INF, FBIG, 0.0, B, 0.0, -0.0, 0.0, B, -FTINY, -0.0, -1, B, -FBIG, -INF, -2, INF),
                NONE, 0, row(INF, FBIG, 0.0, 0.0, 0.0, -0.0, -0.0, -0.0, -FTINY, -FTINY, -1, -1, -FBIG, -INF, -INF, -INF));
        rows.both("sorted", 22, row(0.0, -0.0, B, 0.0, -0.0, INF, -INF, FTINY, -FTINY, B, -0.0, 0.0), NONE, 0,
                row(-INF, -FTINY, -0.0, -0.0, -0.0, 0.0, 0.0, 0.0, FTINY, INF));
    }

    private static void greatest() {
        check.says("20 the greatest of x at the places 0 to i, BLANK ones left out; BLANK, if all are.");
        rows.both("all blank", 20, NONE, NONE, 0, NONE);
        rows.both("the first", 20, row(5), NONE, 0, Rows.same(5));
        rows.both("the last", 20, row(B, B, B, B, B, B, B, B, B, B, B, B, B, B, B, -5), NONE, 0,
                row(B, B, B, B, B, B, B, B, B, B, B, B, B, B, B, -5));
        rows.wide("of all digits", 20, row(16777217, 1, BIG, 2), NONE, 0,
                row(16777217, 16777217, BIG, BIG, BIG, BIG, BIG, BIG, BIG, BIG, BIG, BIG, BIG, BIG, BIG, BIG));
        rows.both("below 0", 20, row(B, -3, -5, -2), NONE, 0,
                row(B, -3, -3, -2, -2, -2, -2, -2, -2, -2, -2, -2, -2, -2, -2, -2));
    }

    private static void least() {
        check.says("21 the least, likewise.");
        rows.both("all blank", 21, NONE, NONE, 0, NONE);
        rows.both("the first", 21, row(-5), NONE, 0, Rows.same(-5));
        rows.both("the last", 21, row(B, B, B, B, B, B, B, B, B, B, B, B, B, B, B, 5), NONE, 0,
                row(B, B, B, B, B, B, B, B, B, B, B, B, B, B, B, 5));
        rows.wide("of all digits", 21, row(16777217, 16777218, TINY, 2), NONE, 0, row(16777217, 16777217, TINY, TINY,
                TINY, TINY, TINY, TINY, TINY, TINY, TINY, TINY, TINY, TINY, TINY, TINY));
        rows.both("above 0", 21, row(B, 3, 5, 2), NONE, 0, row(B, 3, 3, 2, 2, 2, 2, 2, 2, 2, 2, 2, 2, 2, 2, 2));
    }

    private static void sorted() {
        check.says("22 the i-th (from 0) of x at all places, sorted from the least on, BLANK ones left out; "
                + "BLANK beyond them.");
        rows.both("none", 22, NONE, NONE, 0, NONE);
        rows.both("the first", 22, row(5), NONE, 0, row(5));
        rows.both("the last", 22, row(B, B, B, B, B, B, B, B, B, B, B, B, B, B, B, -5), NONE, 0, row(-5));
        rows.both("all 16", 22, row(16, -15, 14, -13, 12, -11, 10, -9, 8, -7, 6, -5, 4, -3, 2, -1), NONE, 0,
                row(-15, -13, -11, -9, -7, -5, -3, -1, 2, 4, 6, 8, 10, 12, 14, 16));
        rows.both("15", 22, row(16, 15, 14, 13, 12, 11, 10, B, 8, 7, 6, 5, 4, 3, 2, 1), NONE, 0,
                row(1, 2, 3, 4, 5, 6, 7, 8, 10, 11, 12, 13, 14, 15, 16, B));
        rows.wide("of all digits", 22, row(BIG, 0x1.0000000000001p0, 16777217, TINY, 1), NONE, 0,
                row(TINY, 1, 0x1.0000000000001p0, 16777217, BIG));
        rows.both("equal ones", 22, Rows.same(3), NONE, 0, Rows.same(3));
    }

    private static void ranks() {
        check.says("23 at how many places x is less than here.");
        rows.both("all alike", 23, Rows.same(3), NONE, 0, Rows.same(0.0));
        rows.both("all unlike", 23, row(16, -15, 14, -13, 12, -11, 10, -9, 8, -7, 6, -5, 4, -3, 2, -1), NONE, 0,
                row(15, 0.0, 14, 1, 13, 2, 12, 3, 11, 4, 10, 5, 9, 6, 8, 7));
        rows.both("blanks are not less", 23, row(5, B, B, -5, B, 0.0, -0.0, INF, -INF, INF), NONE, 0,
                row(4, B, B, 1, B, 2, 2, 5, 0.0, 5));
        rows.both("none", 23, NONE, NONE, 0, NONE);
        rows.both("one", 23, row(B, 7), NONE, 0, row(B, 0.0));
    }

    private static void steps() {
        check.says("24 x - x at i - 1, as 10; BLANK, if that one is, and at place 0.");
        double[] x = row(5, 7, B, 9, 4, INF, INF, -INF, -INF, 3, B, B, 2, 2, FBIG, -FBIG);
        double[] want = row(B, 2, B, B, -5, INF, B, -INF, B, INF, B, B, B, 0.0, FBIG, -2 * FBIG);
        rows.wide("steps", 24, x, NONE, 0, want);
        want[15] = -INF;
        rows.narrow("steps", 24, x, NONE, 0, want);
        rows.both("none", 24, NONE, NONE, 0, NONE);
        rows.both("the first alone", 24, row(5), NONE, 0, NONE);
        rows.both("rounded", 24, row(0.0, 1, 4), NONE, 0, row(B, 1, 3));
        rows.narrow("half way", 24, row(-1, 16777216, -3), NONE, 0, row(B, 16777216, -16777220));
        rows.wide("half way", 24, row(-1, 0x1p53, -3), NONE, 0, row(B, 0x1p53, -0x1p53 - 4));
    }

    private static void counts() {
        check.says("25 at how many of the places 0 to i comparison c of x and y is so (never BLANK).");
        double[] up = new double[16];
        for (int place = 0; place < 16; place++) {
            up[place] = place + 1;
        }
        rows.both("all blank, not equal", 25, NONE, NONE, 5, up);
        rows.both("all blank, equal", 25, NONE, NONE, 4, Rows.same(0.0));
        rows.both("all blank, not less", 25, NONE, NONE, 6, up);
        rows.both("all so", 25, Rows.same(-0.0), Rows.same(0.0), 4, up);
        rows.both("none so", 25, Rows.same(-0.0), Rows.same(0.0), 0, Rows.same(0.0));
        rows.both("the first alone", 25, row(1), row(1), 4, Rows.same(1));
        rows.both("the last alone", 25, row(B, B, B, B, B, B, B, B, B, B, B, B, B, B, B, 1), Rows.same(1), 4,
                row(0.0, 0.0, 0.0, 0.0, 0.0, 0.0, 0.0, 0.0, 0.0, 0.0, 0.0, 0.0, 0.0, 0.0, 0.0, 1));
    }

    private static void multiples() {
        check.says("26 z * y, z being x / y brought to the nearest whole number as by 4 (both rounded);");
        rows.both("of two the even one", 26, row(1, 3, 5, -1, -3, -5, 1, 3, 7, 7, 8),
                row(2, 2, 2, 2, 2, 2, -2, -2, 3, 4, 3), 0, row(0.0, 4, 4, -0.0, -4, -4, 0.0, 4, 6, 8, 9));
        rows.both("x infinite", 26, row(INF, INF, -INF, -INF), row(FTINY, -FTINY, FBIG, -FBIG), 0,
                row(INF, INF, -INF, -INF));
        rows.wide("both rounded", 26,
                row(BIG, -BIG, 0x1.8p1023, 0x1p53, 3 * 0x1p51 + 4, 3 * 0x1p53 - 4, 12582916, 50331644, TINY),
                row(0.5, 0.5, 0x1p1023, 3, 3, 3, 3, 3, TINY), 0,
                row(INF, -INF, INF, 0x1p53 - 2, 3 * 0x1p51 + 6, 3 * 0x1p53 - 4, 12582915, 50331645, TINY));
        rows.narrow("both rounded", 26,
                row(FBIG, -FBIG, 0x1.8p127, 0x1p24, 12582916, 50331644, FTINY),
                row(0.5, 0.5, 0x1p127, 3, 3, 3, FTINY), 0,
                row(INF, -INF, INF, 0x1p24 + 2, 12582918, 50331644, FTINY));
        check.says("BLANK, if y is 0 (or -0) or infinite.");
        rows.both("y is 0 or infinite", 26, row(1, 1, 1, 1, 0.0, -0.0, INF, INF, INF, -INF),
                row(0.0, -0.0, INF, -INF, 0.0, INF, 0.0, INF, -INF, -0.0), 0, row(B, B, B, B, B, B, B, B, B, B));
    }
}
