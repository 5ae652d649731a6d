import java.util.Arrays;

/** Puts rows of any numbers into columns and looks at them; NaN stands for BLANK, as does a row's end. */
final class Rows {
    static final int X = 4;
    static final int Y = 5;
    static final int OUT = 6;
    static final double B = Double.NaN;
    static final double INF = Double.POSITIVE_INFINITY;
    static final double BIG = Double.MAX_VALUE;
    static final double TINY = Double.MIN_VALUE;
    static final double FBIG = Float.MAX_VALUE;
    static final double FTINY = Float.MIN_VALUE;

    private final Check check;

    Rows(Check check) {
        this.check = check;
    }

    static double[] same(double number) {
        double[] row = new double[16];
        Arrays.fill(row, number);
        return row;
    }

    static double[] minus(double[] row) {
        double[] other = new double[row.length];
        for (int k = 0; k < row.length; k++) {
            other[k] = -row[k];
        }
        return other;
    }

    private static double at(double[] row, int place) {
        return place < row.length ? row[place] : B;
    }

    /**
     * An input column above 3, which is wide: (column 0 + column 1) * column 2, as no call puts all
     * digits of a number, nor those beyond set's powers.
     */
    void fill(TideBook book, int column, double... numbers) {
        check.due("high + low", book.formula(3, 9, 0, 1, 0), 1);
        check.due("by the scale", book.formula(column, 11, 3, 2, 0), 1);
        for (int place = 0; place < 16; place++) {
            put(book, place, at(numbers, place));
        }
        check.due("as an input", book.input(column), 1);
        for (int place = 0; place < numbers.length; place++) {
            double number = numbers[place];
            check.due("fill", book.reading(column, place), Double.isNaN(number) ? 0.0 : number);
        }
    }

    private void put(TideBook book, int place, double number) {
        if (Double.isNaN(number)) {
            check.due("blank", book.special(0, place, 0), 1);
            return;
        }
        double size = Math.abs(number);
        boolean endless = Double.isInfinite(size);
        int power = size == 0 || endless ? 0 : Math.getExponent(size) - 30;
        int scale = Math.max(-1000, Math.min(power, 900));
        double digits = endless ? 0 : Math.scalb(size, -power);
        int high = (int) digits;
        int low = (int) ((digits - high) * 0x1p22);
        check.due("high", endless ? book.special(0, place, 1) : book.set(0, place, high, power - scale), 1);
        check.due("low", book.set(1, place, low, power - scale - 22), 1);
        check.due("scale", book.set(2, place, Math.copySign(1, number) < 0 ? -1 : 1, scale), 1);
    }

    /** All that can be seen of a column's 16 places. */
    void look(String what, TideBook book, int column, boolean narrow, double... want) {
        for (int place = 0; place < 16; place++) {
            double due = at(want, place);
            boolean blank = Double.isNaN(due);
            String call = what + ", place " + place;
            long bits = narrow ? Float.floatToIntBits((float) due) : Double.doubleToLongBits(due);
            check.due(call + " isBlank", book.isBlank(column, place), blank);
            check.due(call + " reading", book.reading(column, place), blank ? 0.0 : due);
            check.due(call + " isMinus", book.isMinus(column, place), !blank && Math.copySign(1, due) < 0);
            check.due(call + " bits", book.bits(column, place), blank ? 0 : bits);
        }
    }

    void both(String what, int f, double[] x, double[] y, int c, double[] want) {
        wide(what, f, x, y, c, want);
        narrow(what, f, x, y, c, want);
    }

    void wide(String what, int f, double[] x, double[] y, int c, double[] want) {
        run(what + ", wide", f, x, y, c, want, false);
    }

    void narrow(String what, int f, double[] x, double[] y, int c, double[] want) {
        run(what + ", narrow", f, x, y, c, want, true);
    }

    private void run(String what, int f, double[] x, double[] y, int c, double[] want, boolean narrow) {
        TideBook book = new TideBook();
        fill(book, X, x);
        fill(book, Y, y);
        check.due("width", book.width(OUT, narrow), narrow ? 1 : 0);
        check.due("formula", book.formula(OUT, f, X, Y, c), 1);
        look(what + ", formula " + f, book, OUT, narrow, want);
    }
}
