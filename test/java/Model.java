import java.util.ArrayDeque;
import java.util.Arrays;
import java.util.Deque;

/**
 * The document once more, by other means: BLANK is NaN, the Java library reckons, every answer is
 * reckoned anew from the inputs, and each change keeps a copy of the whole book.
 */
final class Model {
    private static final int[] INPUT = {-1, 0, 0, 0};

    private static final class Page {
        double[][] cells = new double[12][16];
        double[] constants = new double[8];
        int[][] formulas = new int[12][];
        boolean[] narrow = new boolean[12];

        Page copy() {
            Page page = new Page();
            for (int k = 0; k < 12; k++) {
                page.cells[k] = cells[k].clone();
            }
            page.constants = constants.clone();
            page.formulas = formulas.clone();
            page.narrow = narrow.clone();
            return page;
        }
    }

    private Page page = new Page();
    private final Deque<Page> before = new ArrayDeque<>();
    private final int[][] alarms = new int[10][];
    private final boolean[][] held = new boolean[10][];
    private final boolean[][] rang = new boolean[10][];
    private int alarmCount = 0;
    private int rings = 0;

    Model() {
        for (double[] row : page.cells) {
            Arrays.fill(row, Double.NaN);
        }
        Arrays.fill(page.constants, Double.NaN);
        Arrays.fill(page.formulas, INPUT);
    }

    private static boolean in(int k, int from, int to) {
        return from <= k && k <= to;
    }

    private static double fit(double x, boolean narrow) {
        return narrow ? (double) (float) x : x;
    }

    private void change() {
        before.push(page);
        page = page.copy();
    }

    int set(int column, int place, int m, int e) {
        if (!in(column, 0, 11) || !in(place, 0, 15) || page.formulas[column] != INPUT || !in(e, -1000, 900)) {
            return 0;
        }
        change();
        page.cells[column][place] = fit(Math.scalb((double) m, e), page.narrow[column]);
        return 1;
    }

    private static double special(int what, boolean narrow) {
        double[] wide = {Double.NaN, Double.POSITIVE_INFINITY, Double.NEGATIVE_INFINITY, -0.0,
            Double.MAX_VALUE, Double.MIN_VALUE};
        return !narrow || what < 4 ? wide[what] : what == 4 ? Float.MAX_VALUE : Float.MIN_VALUE;
    }

    int special(int column, int place, int what) {
        if (!in(column, 0, 11) || !in(place, 0, 15) || page.formulas[column] != INPUT || !in(what, 0, 5)) {
            return 0;
        }
        change();
        page.cells[column][place] = special(what, page.narrow[column]);
        return 1;
    }

    int constant(int k, int m, int e) {
        if (!in(k, 0, 7) || !in(e, -1000, 900)) {
            return 0;
        }
        change();
        page.constants[k] = Math.scalb((double) m, e);
        return 1;
    }

    int constantSpecial(int k, int what) {
        if (!in(k, 0, 7) || !in(what, 0, 5)) {
            return 0;
        }
        change();
        page.constants[k] = special(what, false);
        return 1;
    }

    int formula(int column, int f, int a, int b, int c) {
        if (!in(column, 0, 11) || !in(f, 0, 26) || !in(a, 0, column - 1)) {
            return 0;
        }
        if (!(in(b, 0, column - 1) || in(b, 16, 23)) || !in(c, 0, 11)) {
            return 0;
        }
        change();
        page.formulas[column] = new int[] {f, a, b, c};
        return 1;
    }

    int input(int column) {
        if (!in(column, 0, 11) || page.formulas[column] == INPUT) {
            return 0;
        }
        change();
        page.cells[column] = all()[column];
        page.formulas[column] = INPUT;
        return 1;
    }

    int width(int column, boolean narrow) {
        if (!in(column, 0, 11) || page.narrow[column] == narrow) {
            return 0;
        }
        change();
        page.narrow[column] = narrow;
        for (int place = 0; place < 16; place++) {
            page.cells[column][place] = fit(page.cells[column][place], narrow);
        }
        return 1;
    }

    int back() {
        if (before.isEmpty()) {
            return -1;
        }
        page = before.pop();
        return before.size();
    }

    int alarm(int column, int c, int b) {
        if (!in(column, 0, 11) || !in(c, 0, 11) || !(in(b, 0, 11) || in(b, 16, 23)) || alarmCount == 10) {
            return -1;
        }
        alarms[alarmCount] = new int[] {column, c, b};
        held[alarmCount] = new boolean[16];
        return alarmCount++;
    }

    int ring() {
        double[][] all = all();
        rings++;
        int count = 0;
        for (int k = 0; k < alarmCount; k++) {
            boolean[] now = new boolean[16];
            rang[k] = new boolean[16];
            for (int place = 0; place < 16; place++) {
                double other = alarms[k][2] < 16 ? all[alarms[k][2]][place] : page.constants[alarms[k][2] - 16];
                now[place] = so(alarms[k][1], all[alarms[k][0]][place], other);
                rang[k][place] = now[place] && !held[k][place];
                count += rang[k][place] ? 1 : 0;
            }
            held[k] = now;
        }
        return count;
    }

    private double cell(int column, int place) {
        return in(column, 0, 11) && in(place, 0, 15) ? all()[column][place] : 0;
    }

    double reading(int column, int place) {
        double x = cell(column, place);
        return Double.isNaN(x) ? 0 : x;
    }

    boolean isBlank(int column, int place) {
        return Double.isNaN(cell(column, place));
    }

    boolean isMinus(int column, int place) {
        double x = cell(column, place);
        return !Double.isNaN(x) && Math.copySign(1, x) < 0;
    }

    long bits(int column, int place) {
        double x = cell(column, place);
        if (Double.isNaN(x) || !in(column, 0, 11)) {
            return 0;
        }
        return page.narrow[column] ? Float.floatToRawIntBits((float) x) : Double.doubleToRawLongBits(x);
    }

    int compared(int column, int c, int other) {
        if (!in(column, 0, 11) || !in(other, 0, 11) || !in(c, 0, 11)) {
            return -1;
        }
        double[][] all = all();
        int count = 0;
        for (int place = 0; place < 16; place++) {
            count += so(c, all[column][place], all[other][place]) ? 1 : 0;
        }
        return count;
    }

    int alarmed(int alarm, int what) {
        if (!in(alarm, 0, alarmCount - 1) || !in(what, 0, 2) || rang[alarm] == null) {
            return -1;
        }
        int count = 0;
        int first = -1;
        for (int place = 15; place >= 0; place--) {
            count += (what == 0 ? held : rang)[alarm][place] ? 1 : 0;
            first = rang[alarm][place] ? place : first;
        }
        return what == 2 ? first : count;
    }

    int told(int column, int what) {
        if (column == 12) {
            return what == 0 ? before.size() : what == 1 ? alarmCount : what == 2 ? rings : -1;
        }
        if (!in(column, 0, 11) || !in(what, 0, 3)) {
            return -1;
        }
        int blanks = 0;
        for (double x : all()[column]) {
            blanks += Double.isNaN(x) ? 1 : 0;
        }
        return new int[] {page.formulas[column] == INPUT ? 0 : 1, page.narrow[column] ? 1 : 0,
            blanks, page.formulas[column][0]}[what];
    }

    private static boolean so(int c, double x, double y) {
        boolean[] plain = {x < y, x <= y, x > y, x >= y, x == y, x != y};
        return c < 6 ? plain[c] : !plain[c - 6];
    }

    private double[][] all() {
        double[][] all = new double[12][];
        for (int column = 0; column < 12; column++) {
            int[] formula = page.formulas[column];
            all[column] = formula == INPUT ? page.cells[column].clone() : reckon(all, column, formula);
        }
        return all;
    }

    private double[] reckon(double[][] all, int column, int[] formula) {
        boolean narrow = page.narrow[column];
        double[] x = new double[16];
        double[] y = new double[16];
        for (int i = 0; i < 16; i++) {
            x[i] = fit(all[formula[1]][i], narrow);
            y[i] = fit(formula[2] < 16 ? all[formula[2]][i] : page.constants[formula[2] - 16], narrow);
        }
        double[] row = new double[16];
        for (int i = 0; i < 16; i++) {
            row[i] = fit(at(formula[0], formula[3], x, y, i, narrow), narrow);
        }
        return row;
    }

    private static double at(int f, int c, double[] x, double[] y, int i, boolean narrow) {
        double p = x[i];
        double q = y[i];
        switch (f) {
            case 0: return p;
            case 1: return Math.abs(p);
            case 2: return Math.floor(p);
            case 3: return Math.ceil(p);
            case 4: return Math.rint(p);
            case 5: return Math.signum(p);
            case 6: return p / 2;
            case 7: return p * 2;
            case 8: return -p;
            case 9: return p + q;
            case 10: return p - q;
            case 11: return p * q;
            case 12: return p / q;
            case 13: return p % q;
            case 14: return Math.min(p, q);
            case 15: return Math.max(p, q);
            case 16: return Double.isNaN(q) ? q : Math.copySign(p, q);
            case 17: return so(c, p, q) ? p : Double.NaN;
            case 18: return Double.isNaN(p) ? q : p;
            case 19: return i == 0 || i == 15 ? Double.NaN : middle(Arrays.copyOfRange(x, i - 1, i + 2));
            case 20: return end(Arrays.copyOf(x, i + 1), true);
            case 21: return end(Arrays.copyOf(x, i + 1), false);
            case 22: return sorted(x)[i];
            case 23: return Double.isNaN(p) ? p : Arrays.stream(x).filter(other -> other < p).count();
            case 24: return i == 0 ? Double.NaN : p - x[i - 1];
            case 25: return counted(c, x, y, i);
            default: return Math.rint(fit(p / q, narrow)) * q;
        }
    }

    /** NaN comes last. */
    private static double[] sorted(double[] x) {
        double[] row = x.clone();
        Arrays.sort(row);
        return row;
    }

    private static double middle(double[] three) {
        double[] row = sorted(three);
        return Double.isNaN(row[2]) ? Double.NaN : row[1];
    }

    private static double end(double[] x, boolean greatest) {
        double[] row = Arrays.stream(x).filter(other -> !Double.isNaN(other)).sorted().toArray();
        return row.length == 0 ? Double.NaN : greatest ? row[row.length - 1] : row[0];
    }

    private static double counted(int c, double[] x, double[] y, int i) {
        int count = 0;
        for (int k = 0; k <= i; k++) {
            count += so(c, x[k], y[k]) ? 1 : 0;
        }
        return count;
    }
}
