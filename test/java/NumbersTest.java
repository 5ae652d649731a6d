import java.math.BigDecimal;
import java.math.MathContext;
import java.math.RoundingMode;
import java.util.Random;

/** Numbers of all sizes and with all their digits, reckoned exactly and rounded once by BigDecimal. */
public final class NumbersTest {
    private static final Check check = new Check("NumbersTest");
    private static final int[] FORMULAS = {0, 1, 2, 3, 4, 5, 6, 7, 8, 9, 10, 11, 12, 13, 14, 15, 16, 26};
    private static final int BOOKS = 240;

    private final Random random;
    private final boolean near;
    private final boolean narrow;
    private final TideBook book = new TideBook();

    private NumbersTest(int seed) {
        random = new Random(seed);
        near = seed % 3 != 0;
        narrow = seed % 2 == 0;
    }

    public static void main(String[] args) {
        for (int seed = 0; seed < BOOKS && check.wrongs() == 0; seed++) {
            new NumbersTest(seed).run(seed / 2 % 3 * 6);
        }
        check.end();
    }

    private void run(int firstFormula) {
        int middle = near ? random.nextInt(1950) - 1050 : 0;
        fill(4, middle);
        fill(5, middle);
        double[] x = row(4);
        double[] y = row(5);
        for (int column = 6; column < 12; column++) {
            int f = FORMULAS[firstFormula + column - 6];
            book.width(column, narrow);
            book.formula(column, f, 4, 5, 0);
            for (int place = 0; place < 16; place++) {
                double due = fit(reckon(f, fit(x[place]), fit(y[place])));
                long bits = Double.isNaN(due) ? 0 : narrow ? Float.floatToIntBits((float) due)
                        : Double.doubleToLongBits(due);
                check.due("formula " + f + " of " + x[place] + ", " + y[place] + (narrow ? " narrow" : ""),
                        book.bits(column, place), bits);
            }
        }
    }

    /** (high + low) * scale: all 53 digits, at any exponent. */
    private void fill(int column, int middle) {
        book.formula(3, 9, 0, 1, 0);
        book.formula(column, 11, 3, 2, 0);
        for (int place = 0; place < 16; place++) {
            int power = near ? middle + random.nextInt(90) - 45 : random.nextInt(2000) - 1074;
            power = Math.max(-1085, Math.min(power, 970));
            int scale = Math.max(-1000, Math.min(power, 900));
            int low = random.nextInt(3) == 0 ? 0 : random.nextInt();
            book.set(0, place, random.nextInt() >> random.nextInt(28), power - scale);
            book.set(1, place, low, power - scale - 22);
            book.set(2, place, 1, scale);
        }
        check.due("as an input", book.input(column), 1);
    }

    private double[] row(int column) {
        double[] row = new double[16];
        for (int place = 0; place < 16; place++) {
            row[place] = book.reading(column, place);
        }
        return row;
    }

    private double fit(double x) {
        return narrow ? (double) (float) x : x;
    }

    private double rounded(BigDecimal exact) {
        return narrow ? exact.floatValue() : exact.doubleValue();
    }

    private static boolean minus(double x) {
        return Math.copySign(1, x) < 0;
    }

    private static double signed(double size, boolean minus) {
        return minus ? -Math.abs(size) : Math.abs(size);
    }

    private double reckon(int f, double x, double y) {
        switch (f) {
            case 1: return signed(x, false);
            case 2: return whole(x, RoundingMode.FLOOR);
            case 3: return whole(x, RoundingMode.CEILING);
            case 4: return whole(x, RoundingMode.HALF_EVEN);
            case 5: return x > 0 ? 1 : x < 0 ? -1 : x;
            case 6: return quotient(x, 2);
            case 7: return product(x, 2);
            case 8: return signed(x, !minus(x));
            case 9: return sum(x, y);
            case 10: return sum(x, signed(y, !minus(y)));
            case 11: return product(x, y);
            case 12: return quotient(x, y);
            case 13: return remainder(x, y);
            case 14: return Double.compare(x, y) < 0 ? x : y;
            case 15: return Double.compare(x, y) > 0 ? x : y;
            case 16: return signed(x, minus(y));
            case 26: return multiple(x, y);
            default: return x;
        }
    }

    private double whole(double x, RoundingMode mode) {
        if (Double.isInfinite(x)) {
            return x;
        }
        double whole = rounded(new BigDecimal(x).setScale(0, mode));
        return whole == 0 ? signed(0, minus(x)) : whole;
    }

    private double sum(double x, double y) {
        if (Double.isInfinite(x) || Double.isInfinite(y)) {
            boolean unlike = Double.isInfinite(x) && Double.isInfinite(y) && x != y;
            return unlike ? Double.NaN : Double.isInfinite(x) ? x : y;
        }
        double sum = rounded(new BigDecimal(x).add(new BigDecimal(y)));
        boolean bothMinus = minus(x) && minus(y);
        return sum == 0 ? signed(0, bothMinus) : sum;
    }

    private double product(double x, double y) {
        boolean minus = minus(x) != minus(y);
        if (Double.isInfinite(x) || Double.isInfinite(y)) {
            return x == 0 || y == 0 ? Double.NaN : signed(Double.POSITIVE_INFINITY, minus);
        }
        return signed(rounded(new BigDecimal(x).multiply(new BigDecimal(y))), minus);
    }

    private double quotient(double x, double y) {
        boolean minus = minus(x) != minus(y);
        if ((x == 0 && y == 0) || (Double.isInfinite(x) && Double.isInfinite(y))) {
            return Double.NaN;
        }
        if (y == 0 || Double.isInfinite(x)) {
            return signed(Double.POSITIVE_INFINITY, minus);
        }
        if (x == 0 || Double.isInfinite(y)) {
            return signed(0, minus);
        }
        BigDecimal top = new BigDecimal(Math.abs(x));
        BigDecimal below = new BigDecimal(Math.abs(y));
        BigDecimal down = top.divide(below, new MathContext(1200, RoundingMode.DOWN));
        boolean exact = down.multiply(below).compareTo(top) == 0;
        // 1200 digits hold every half way; a last digit tells of those that were left out
        BigDecimal told = exact ? down : down.add(new BigDecimal(down.ulp().unscaledValue(), down.scale() + 3));
        return signed(rounded(told), minus);
    }

    private double remainder(double x, double y) {
        if (y == 0 || Double.isInfinite(x)) {
            return Double.NaN;
        }
        if (Double.isInfinite(y)) {
            return x;
        }
        return signed(new BigDecimal(x).remainder(new BigDecimal(y)).doubleValue(), minus(x));
    }

    private double multiple(double x, double y) {
        if (y == 0 || Double.isInfinite(y)) {
            return Double.NaN;
        }
        return signed(product(whole(quotient(x, y), RoundingMode.HALF_EVEN), y), minus(x));
    }
}
