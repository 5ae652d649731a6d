/** Each promise in turn: ordinary inputs, the edges that the document names, and wrong inputs. */
public final class PromiseTest {
    private static final Check check = new Check("PromiseTest");
    private static final int[] NO_COLUMN = {-1, 12, 16, Integer.MIN_VALUE, Integer.MAX_VALUE};
    private static final int[] NO_PLACE = {-1, 16, Integer.MIN_VALUE, Integer.MAX_VALUE};
    private static final int[] NO_COMPARISON = {-1, 12, Integer.MIN_VALUE, Integer.MAX_VALUE};

    public static void main(String[] args) {
        newObject();
        set();
        setNarrow();
        special();
        constant();
        constantSpecial();
        formula();
        formulaOverInput();
        input();
        width();
        back();
        backOfEachChange();
        alarm();
        ring();
        ringAfterBack();
        reading();
        isBlank();
        isMinus();
        bits();
        compared();
        comparedByWideNumbers();
        alarmed();
        told();
        staysUpToDate();
        manyChanges();
        nothingButChanges();
        check.end();
    }

    private static void due(String call, long got, long want) {
        check.due(call, got, want);
    }

    private static void newObject() {
        TideBook book = new TideBook();
        for (int column = 0; column < 12; column++) {
            due("new told 0", book.told(column, 0), 0);
            due("new told 1", book.told(column, 1), 0);
            due("new told 2", book.told(column, 2), 16);
            due("new told 3", book.told(column, 3), -1);
            for (int place = 0; place < 16; place++) {
                check.due("new isBlank", book.isBlank(column, place), true);
            }
        }
        due("new changes", book.told(12, 0), 0);
        due("new alarms", book.told(12, 1), 0);
        due("new rings", book.told(12, 2), 0);
        due("new back", book.back(), -1);
        due("new alarmed", book.alarmed(0, 0), -1);
        for (int k = 0; k < 8; k++) {
            due("formula of a constant", book.formula(1 + k, 18, 0, 16 + k, 0), 1);
            due("constants are blank", book.told(1 + k, 2), 16);
        }
    }

    private static void set() {
        TideBook book = new TideBook();
        due("set", book.set(0, 0, 5, -1), 1);
        check.due("reading", book.reading(0, 0), 2.5);
        due("set", book.set(11, 15, -3, 4), 1);
        check.due("reading", book.reading(11, 15), -48.0);
        due("set 0", book.set(0, 0, 0, 900), 1);
        check.due("reading", book.reading(0, 0), 0.0);
        due("set least m, greatest e", book.set(0, 1, Integer.MIN_VALUE, 900), 1);
        check.due("reading", book.reading(0, 1), -Math.scalb(1.0, 931));
        due("set greatest m, least e", book.set(0, 2, Integer.MAX_VALUE, -1000), 1);
        check.due("reading", book.reading(0, 2), Math.scalb((double) Integer.MAX_VALUE, -1000));
        for (int e = -1000; e <= 900; e += 19) {
            due("set", book.set(3, 3, -1234567, e), 1);
            check.due("reading e " + e, book.reading(3, 3), Math.scalb(-1234567.0, e));
            due("back", book.back(), 5);
        }
        due("changes", book.told(12, 0), 5);
        for (int column : NO_COLUMN) {
            due("set, no column", book.set(column, 0, 1, 0), 0);
        }
        for (int place : NO_PLACE) {
            due("set, no place", book.set(0, place, 1, 0), 0);
        }
        for (int e : new int[] {-1001, 901, Integer.MIN_VALUE, Integer.MAX_VALUE}) {
            due("set, no e", book.set(0, 0, 1, e), 0);
        }
        due("formula", book.formula(5, 0, 0, 16, 0), 1);
        due("set of a formula", book.set(5, 0, 1, 0), 0);
        due("changes", book.told(12, 0), 6);
    }

    private static void setNarrow() {
        TideBook book = new TideBook();
        book.width(0, true);
        book.set(0, 0, 16777217, 0);
        check.due("half to even, down", book.reading(0, 0), 16777216.0);
        book.set(0, 0, 16777219, 0);
        check.due("half to even, up", book.reading(0, 0), 16777220.0);
        book.set(0, 0, 33554435, 0);
        check.due("nearest", book.reading(0, 0), 33554436.0);
        book.set(0, 0, 1, 128);
        check.due("beyond all", book.reading(0, 0), Double.POSITIVE_INFINITY);
        book.set(0, 0, -1, 900);
        check.due("beyond all, -", book.reading(0, 0), Double.NEGATIVE_INFINITY);
        book.set(0, 0, 33554431, 103);
        check.due("half beyond the greatest", book.reading(0, 0), Double.POSITIVE_INFINITY);
        book.set(0, 0, 67108861, 102);
        check.due("less than half beyond", book.reading(0, 0), (double) Float.MAX_VALUE);
        book.set(0, 0, 1, -150);
        check.due("half of the least", book.reading(0, 0), 0.0);
        book.set(0, 0, -1, -150);
        check.due("half of the least, -", book.reading(0, 0), -0.0);
        book.set(0, 0, -3, -151);
        check.due("nearer to the least", book.reading(0, 0), -(double) Float.MIN_VALUE);
        book.set(0, 0, -1, -1000);
        check.due("near to 0, -", book.reading(0, 0), -0.0);
        check.due("isMinus", book.isMinus(0, 0), true);
    }

    private static void special() {
        TideBook book = new TideBook();
        double[] wide = {0, Double.POSITIVE_INFINITY, Double.NEGATIVE_INFINITY, -0.0,
            Double.MAX_VALUE, Double.MIN_VALUE};
        book.width(1, true);
        for (int what = 0; what < 6; what++) {
            due("special", book.special(0, what, what), 1);
            due("special", book.special(1, what, what), 1);
            check.due("special wide " + what, book.reading(0, what), wide[what]);
            double narrow = what == 4 ? Float.MAX_VALUE : what == 5 ? Float.MIN_VALUE : wide[what];
            check.due("special narrow " + what, book.reading(1, what), narrow);
            check.due("special blank " + what, book.isBlank(0, what), what == 0);
        }
        book.set(0, 3, 1, 0);
        due("blank again", book.special(0, 3, 0), 1);
        check.due("blank again", book.isBlank(0, 3), true);
        due("changes", book.told(12, 0), 15);
        for (int what : new int[] {-1, 6, Integer.MIN_VALUE, Integer.MAX_VALUE}) {
            due("special, no what", book.special(0, 0, what), 0);
        }
        for (int column : NO_COLUMN) {
            due("special, no column", book.special(column, 0, 1), 0);
        }
        for (int place : NO_PLACE) {
            due("special, no place", book.special(0, place, 1), 0);
        }
        book.formula(2, 0, 0, 0, 0);
        due("special of a formula", book.special(2, 0, 1), 0);
        due("changes", book.told(12, 0), 16);
    }

    private static void constant() {
        TideBook book = new TideBook();
        for (int k = 0; k < 8; k++) {
            book.formula(1 + k, 18, 0, 16 + k, 0);
        }
        for (int k = 0; k < 8; k++) {
            due("constant", book.constant(k, k - 3, k), 1);
        }
        for (int k = 0; k < 8; k++) {
            check.due("constant " + k, book.reading(1 + k, 9), Math.scalb((double) (k - 3), k));
        }
        due("constant, greatest e", book.constant(0, -1, 900), 1);
        check.due("constant", book.reading(1, 0), -Math.scalb(1.0, 900));
        due("constant, least e", book.constant(0, 3, -1000), 1);
        check.due("constant", book.reading(1, 0), Math.scalb(3.0, -1000));
        due("constant stays wide", book.constant(0, 16777217, 0), 1);
        check.due("constant", book.reading(1, 15), 16777217.0);
        int changes = book.told(12, 0);
        due("constant -1", book.constant(-1, 1, 0), 0);
        due("constant 8", book.constant(8, 1, 0), 0);
        due("constant 16", book.constant(16, 1, 0), 0);
        due("constant e", book.constant(0, 1, 901), 0);
        due("constant e", book.constant(0, 1, -1001), 0);
        due("changes", book.told(12, 0), changes);
        check.due("constant", book.reading(1, 15), 16777217.0);
    }

    private static void constantSpecial() {
        TideBook book = new TideBook();
        double[] wide = {0, Double.POSITIVE_INFINITY, Double.NEGATIVE_INFINITY, -0.0,
            Double.MAX_VALUE, Double.MIN_VALUE};
        book.formula(1, 18, 0, 23, 0);
        for (int what = 5; what >= 0; what--) {
            due("constantSpecial", book.constantSpecial(7, what), 1);
            check.due("constantSpecial " + what, book.reading(1, 4), wide[what]);
            check.due("constantSpecial " + what, book.isBlank(1, 4), what == 0);
        }
        due("constantSpecial, no what", book.constantSpecial(7, 6), 0);
        due("constantSpecial, no what", book.constantSpecial(7, -1), 0);
        due("constantSpecial, no k", book.constantSpecial(8, 1), 0);
        due("constantSpecial, no k", book.constantSpecial(-1, 1), 0);
        due("changes", book.told(12, 0), 7);
    }

    private static void formula() {
        TideBook book = new TideBook();
        due("formula", book.formula(1, 0, 0, 0, 0), 1);
        due("formula", book.formula(11, 26, 10, 10, 11), 1);
        due("formula", book.formula(11, 26, 10, 16, 11), 1);
        due("formula", book.formula(11, 26, 10, 23, 11), 1);
        due("the same once more", book.formula(11, 26, 10, 23, 11), 1);
        due("changes", book.told(12, 0), 5);
        due("f", book.told(11, 3), 26);
        due("column 0", book.formula(0, 0, 0, 16, 0), 0);
        due("f -1", book.formula(2, -1, 0, 16, 0), 0);
        due("f 27", book.formula(2, 27, 0, 16, 0), 0);
        due("a its own", book.formula(2, 0, 2, 16, 0), 0);
        due("a higher", book.formula(2, 0, 3, 16, 0), 0);
        due("a -1", book.formula(2, 0, -1, 16, 0), 0);
        due("a a constant", book.formula(2, 0, 16, 16, 0), 0);
        due("b its own", book.formula(2, 0, 0, 2, 0), 0);
        due("b higher", book.formula(2, 0, 0, 3, 0), 0);
        due("b 12", book.formula(2, 0, 0, 12, 0), 0);
        due("b 15", book.formula(11, 0, 0, 15, 0), 0);
        due("b 24", book.formula(2, 0, 0, 24, 0), 0);
        due("b -1", book.formula(2, 0, 0, -1, 0), 0);
        due("b least", book.formula(2, 0, 0, Integer.MIN_VALUE, 0), 0);
        due("b greatest", book.formula(2, 0, 0, Integer.MAX_VALUE, 0), 0);
        for (int c : NO_COMPARISON) {
            due("no c", book.formula(2, 0, 0, 16, c), 0);
        }
        for (int column : NO_COLUMN) {
            due("no column", book.formula(column, 0, 0, 16, 0), 0);
        }
        due("changes", book.told(12, 0), 5);
        due("no formula", book.told(2, 3), -1);
    }

    private static void formulaOverInput() {
        TideBook book = new TideBook();
        book.set(1, 2, 9, 0);
        book.set(0, 2, 4, 0);
        due("formula", book.formula(1, 7, 0, 16, 0), 1);
        check.due("2 * x", book.reading(1, 2), 8.0);
        due("formula", book.formula(1, 8, 0, 16, 0), 1);
        check.due("-x", book.reading(1, 2), -4.0);
        due("back", book.back(), 3);
        check.due("2 * x", book.reading(1, 2), 8.0);
        due("back", book.back(), 2);
        check.due("the input's reading again", book.reading(1, 2), 9.0);
        due("told", book.told(1, 0), 0);
    }

    private static void input() {
        TideBook book = new TideBook();
        book.set(0, 0, 5, 0);
        book.formula(1, 7, 0, 16, 0);
        book.formula(2, 7, 1, 16, 0);
        due("input", book.input(1), 1);
        due("told", book.told(1, 0), 0);
        due("told", book.told(1, 3), -1);
        check.due("reading stays", book.reading(1, 0), 10.0);
        check.due("blank stays", book.isBlank(1, 1), true);
        book.set(0, 0, 6, 0);
        check.due("reading stays", book.reading(1, 0), 10.0);
        due("set", book.set(1, 0, 7, 0), 1);
        check.due("what reads it", book.reading(2, 0), 14.0);
        due("back", book.back(), 5);
        due("back", book.back(), 4);
        due("back", book.back(), 3);
        due("told", book.told(1, 3), 7);
        due("set", book.set(0, 0, 8, 0), 1);
        check.due("formula again", book.reading(2, 0), 32.0);
        due("input of an input", book.input(0), 0);
        for (int column : NO_COLUMN) {
            due("input, no column", book.input(column), 0);
        }
        due("changes", book.told(12, 0), 4);
    }

    private static void width() {
        TideBook book = new TideBook();
        book.set(0, 0, 16777217, 0);
        book.special(0, 1, 4);
        book.special(0, 2, 5);
        due("wide already", book.width(0, false), 0);
        due("width", book.width(0, true), 1);
        due("narrow already", book.width(0, true), 0);
        check.due("brought", book.reading(0, 0), 16777216.0);
        check.due("brought", book.reading(0, 1), Double.POSITIVE_INFINITY);
        check.due("brought", book.reading(0, 2), 0.0);
        check.due("blank stays", book.isBlank(0, 3), true);
        check.due("not blank", book.isBlank(0, 2), false);
        due("width", book.width(0, false), 1);
        check.due("stays brought", book.reading(0, 0), 16777216.0);
        due("back", book.back(), 4);
        due("told", book.told(0, 1), 1);
        due("back", book.back(), 3);
        check.due("as before", book.reading(0, 0), 16777217.0);
        check.due("as before", book.reading(0, 1), Double.MAX_VALUE);
        check.due("as before", book.reading(0, 2), Double.MIN_VALUE);
        book.formula(1, 0, 0, 16, 0);
        due("width of a formula", book.width(1, true), 1);
        check.due("narrow formula", book.reading(1, 0), 16777216.0);
        due("width of a formula", book.width(1, false), 1);
        check.due("wide formula", book.reading(1, 0), 16777217.0);
        for (int column : NO_COLUMN) {
            due("width, no column", book.width(column, true), 0);
            due("width, no column", book.width(column, false), 0);
        }
        due("changes", book.told(12, 0), 6);
    }

    private static void back() {
        TideBook book = new TideBook();
        due("back", book.back(), -1);
        due("set", book.set(0, 0, 1, 0), 1);
        due("the same once more is a change", book.set(0, 0, 1, 0), 1);
        due("refused is none", book.set(0, 0, 1, 901), 0);
        due("back", book.back(), 1);
        check.due("reading", book.reading(0, 0), 1.0);
        due("back", book.back(), 0);
        check.due("blank", book.isBlank(0, 0), true);
        due("back", book.back(), -1);
        due("set", book.set(0, 0, 2, 0), 1);
        due("back", book.back(), 0);
        due("back", book.back(), -1);
        due("told", book.told(12, 0), 0);
    }

    private static void backOfEachChange() {
        TideBook book = new TideBook();
        book.set(0, 0, 3, 0);
        book.formula(1, 9, 0, 16, 0);
        due("constant", book.constant(0, 4, 0), 1);
        check.due("sum", book.reading(1, 0), 7.0);
        due("constantSpecial", book.constantSpecial(0, 1), 1);
        check.due("sum", book.reading(1, 0), Double.POSITIVE_INFINITY);
        due("special", book.special(0, 0, 2), 1);
        check.due("sum", book.isBlank(1, 0), true);
        due("back", book.back(), 4);
        check.due("sum", book.reading(1, 0), Double.POSITIVE_INFINITY);
        due("back", book.back(), 3);
        check.due("sum", book.reading(1, 0), 7.0);
        due("back", book.back(), 2);
        check.due("sum", book.isBlank(1, 0), true);
        due("back", book.back(), 1);
        due("told", book.told(1, 0), 0);
        due("alarm", book.alarm(0, 0, 1), 0);
        due("ring", book.ring(), 0);
        due("alarms are no changes", book.back(), 0);
        due("alarms stay", book.told(12, 1), 1);
        due("rings stay", book.told(12, 2), 1);
    }

    private static void alarm() {
        TideBook book = new TideBook();
        for (int column : NO_COLUMN) {
            due("alarm, no column", book.alarm(column, 0, 0), -1);
        }
        for (int c : NO_COMPARISON) {
            due("alarm, no c", book.alarm(0, c, 0), -1);
        }
        for (int b : new int[] {-1, 12, 15, 24, Integer.MIN_VALUE, Integer.MAX_VALUE}) {
            due("alarm, no b", book.alarm(0, 0, b), -1);
        }
        due("told", book.told(12, 1), 0);
        int[] others = {0, 11, 16, 23, 5, 0, 0, 0, 0, 0};
        for (int k = 0; k < 10; k++) {
            due("alarm " + k, book.alarm(k, k, others[k]), k);
        }
        due("told", book.told(12, 1), 10);
        due("one too many", book.alarm(0, 0, 0), -1);
        due("told", book.told(12, 1), 10);
        due("alarms are no changes", book.told(12, 0), 0);
    }

    private static void ring() {
        TideBook book = new TideBook();
        due("ring without alarms", book.ring(), 0);
        book.alarm(0, 2, 16);
        book.alarm(1, 11, 1);
        due("told", book.told(12, 2), 1);
        due("blanks: alarm 1 holds nowhere", book.ring(), 0);
        book.constant(0, 5, 0);
        for (int place = 0; place < 16; place++) {
            book.set(0, place, place, 0);
            book.set(1, place, 1, 0);
        }
        due("6 .. 15 are above 5, and 1 equals 1", book.ring(), 26);
        due("it held before", book.ring(), 0);
        book.constant(0, 14, 0);
        due("holds less", book.ring(), 0);
        book.constant(0, 4, 0);
        due("5 .. 14 anew", book.ring(), 10);
        due("later alarm", book.alarm(0, 4, 0), 2);
        due("it alone rings", book.ring(), 16);
        due("told", book.told(12, 2), 7);
        due("rings are no changes", book.told(12, 0), 35);
    }

    private static void ringAfterBack() {
        TideBook book = new TideBook();
        book.alarm(0, 4, 0);
        book.set(0, 3, 1, 0);
        due("ring", book.ring(), 1);
        due("back", book.back(), 0);
        due("alarmed stays as at the ring", book.alarmed(0, 0), 1);
        due("ring", book.ring(), 0);
        due("held nowhere", book.alarmed(0, 0), 0);
        book.set(0, 3, 1, 0);
        due("ring again", book.ring(), 1);
    }

    private static void reading() {
        TideBook book = new TideBook();
        book.set(0, 0, 3, 0);
        book.special(0, 1, 3);
        check.due("reading", book.reading(0, 0), 3.0);
        check.due("reading -0", book.reading(0, 1), -0.0);
        check.due("reading of a blank", book.reading(0, 2), 0.0);
        for (int column : NO_COLUMN) {
            check.due("reading, no column", book.reading(column, 0), 0.0);
        }
        for (int place : NO_PLACE) {
            check.due("reading, no place", book.reading(0, place), 0.0);
        }
    }

    private static void isBlank() {
        TideBook book = new TideBook();
        book.set(0, 0, 0, 0);
        check.due("isBlank 0", book.isBlank(0, 0), false);
        check.due("isBlank", book.isBlank(0, 1), true);
        for (int column : NO_COLUMN) {
            check.due("isBlank, no column", book.isBlank(column, 0), false);
        }
        for (int place : NO_PLACE) {
            check.due("isBlank, no place", book.isBlank(0, place), false);
        }
    }

    private static void isMinus() {
        TideBook book = new TideBook();
        boolean[] minus = {false, false, true, true, false, false};
        for (int what = 0; what < 6; what++) {
            book.special(0, what, what);
            check.due("isMinus " + what, book.isMinus(0, what), minus[what]);
        }
        book.set(0, 6, 0, 0);
        check.due("isMinus 0", book.isMinus(0, 6), false);
        book.set(0, 6, -1, -1000);
        check.due("isMinus", book.isMinus(0, 6), true);
        book.special(0, 6, 0);
        check.due("isMinus of a blank", book.isMinus(0, 6), false);
        book.special(0, 0, 2);
        for (int column : NO_COLUMN) {
            check.due("isMinus, no column", book.isMinus(column, 0), false);
        }
        for (int place : NO_PLACE) {
            check.due("isMinus, no place", book.isMinus(0, place), false);
        }
    }

    private static void bits() {
        TideBook book = new TideBook();
        book.width(1, true);
        book.formula(2, 6, 0, 16, 0);
        int[] mantissas = {1, -1, 3, 12345, Integer.MAX_VALUE, Integer.MIN_VALUE, -16777215, 0};
        for (int e = -1000; e <= 900; e += 25) {
            int m = mantissas[(e + 1000) / 25 % 8];
            book.set(0, 0, m, e);
            book.set(1, 0, m, e);
            double want = Math.scalb((double) m, e);
            due("wide bits", book.bits(0, 0), Double.doubleToLongBits(want));
            due("narrow bits", book.bits(1, 0), Float.floatToIntBits((float) want));
        }
        TideBook other = new TideBook();
        other.width(1, true);
        for (int e = -160; e <= 130; e += 2) {
            other.set(1, 0, -5, e);
            due("narrow bits", other.bits(1, 0), Float.floatToIntBits((float) Math.scalb(-5.0, e)));
        }
        book.special(0, 0, 0);
        due("bits of a blank", book.bits(0, 0), 0);
        for (int column : NO_COLUMN) {
            due("bits, no column", book.bits(column, 0), 0);
        }
        for (int place : NO_PLACE) {
            due("bits, no place", book.bits(0, place), 0);
        }
        smallBits();
    }

    /** Wide numbers below the least normal one come of halves alone, as set() ends at 2^-1000. */
    private static void smallBits() {
        TideBook book = new TideBook();
        book.set(0, 0, 0x7fffffff, -1000);
        book.constant(0, 1, -43);
        book.formula(1, 11, 0, 16, 0);
        book.formula(2, 8, 1, 16, 0);
        double want = Math.scalb(2147483647.0, -1043);
        due("below the least normal one", book.bits(1, 0), Double.doubleToLongBits(want));
        due("below, with a -", book.bits(2, 0), Double.doubleToLongBits(-want));
        book.constant(0, 1, -22);
        due("the least normal ones", book.bits(1, 0),
                Double.doubleToLongBits(Math.scalb(2147483647.0, -1022)));
        book.set(0, 0, 1, -1000);
        due("the least normal one", book.bits(1, 0), 1L << 52);
        book.constant(0, 1, -23);
        due("its half", book.bits(1, 0), 1L << 51);
    }

    private static void compared() {
        TideBook book = new TideBook();
        // 1 2, 2 1, 3 3, 0 -0, 4 and a blank, a blank and 4, both blank at the ten others
        int[][] rows = {{1, 2}, {2, 1}, {3, 3}};
        for (int place = 0; place < 3; place++) {
            book.set(0, place, rows[place][0], 0);
            book.set(1, place, rows[place][1], 0);
        }
        book.set(0, 3, 0, 0);
        book.special(1, 3, 3);
        book.set(0, 4, 4, 0);
        book.set(1, 5, 4, 0);
        int[] want = {1, 3, 1, 3, 2, 14, 15, 13, 15, 13, 14, 2};
        for (int c = 0; c < 12; c++) {
            due("compared by " + c, book.compared(0, c, 1), want[c]);
        }
        due("the same", book.compared(0, 4, 0), 5);
        due("the same, less", book.compared(0, 0, 0), 0);
        due("both infinite", book.special(0, 9, 1) + book.special(1, 9, 1), 2);
        due("infinite ones are equal", book.compared(0, 4, 1), 3);
        for (int column : NO_COLUMN) {
            due("compared, no column", book.compared(column, 0, 0), -1);
            due("compared, no other", book.compared(0, 0, column), -1);
        }
        for (int c : NO_COMPARISON) {
            due("compared, no c", book.compared(0, c, 0), -1);
        }
    }

    private static void comparedByWideNumbers() {
        TideBook book = new TideBook();
        book.set(0, 0, 16777217, 0);
        book.formula(1, 0, 0, 16, 0);
        book.width(1, true);
        due("not equal as wide numbers", book.compared(0, 4, 1), 0);
        due("greater", book.compared(0, 2, 1), 1);
        book.constant(1, 16777217, 0);
        book.alarm(1, 0, 17);
        due("alarms, too", book.ring(), 1);
        book.formula(2, 25, 0, 17, 4);
        book.width(2, true);
        book.set(0, 0, 16777216, 0);
        check.due("a formula by its column's width", book.reading(2, 0), 1.0);
    }

    private static void alarmed() {
        TideBook book = new TideBook();
        due("no alarm", book.alarmed(0, 0), -1);
        book.alarm(0, 2, 16);
        due("not looked at", book.alarmed(0, 0), -1);
        due("not looked at", book.alarmed(0, 1), -1);
        due("ring", book.ring(), 0);
        due("held", book.alarmed(0, 0), 0);
        due("rang", book.alarmed(0, 1), 0);
        due("first", book.alarmed(0, 2), -1);
        book.constant(0, 0, 0);
        book.set(0, 15, 1, 0);
        book.set(0, 7, 1, 0);
        due("ring", book.ring(), 2);
        book.set(0, 9, 1, 0);
        due("of the latest ring", book.alarmed(0, 0), 2);
        due("of the latest ring", book.alarmed(0, 2), 7);
        due("ring", book.ring(), 1);
        due("held", book.alarmed(0, 0), 3);
        due("rang", book.alarmed(0, 1), 1);
        due("first", book.alarmed(0, 2), 9);
        book.alarm(0, 4, 0);
        due("the second was not looked at", book.alarmed(1, 0), -1);
        for (int what : new int[] {-1, 3, Integer.MIN_VALUE, Integer.MAX_VALUE}) {
            due("no what", book.alarmed(0, what), -1);
        }
        for (int alarm : new int[] {-1, 2, 9, 10, Integer.MIN_VALUE, Integer.MAX_VALUE}) {
            due("no alarm", book.alarmed(alarm, 0), -1);
        }
    }

    private static void told() {
        TideBook book = new TideBook();
        book.set(0, 3, 1, 0);
        book.formula(4, 25, 0, 16, 5);
        book.width(4, true);
        due("formula", book.told(4, 0), 1);
        due("narrow", book.told(4, 1), 1);
        due("blanks", book.told(4, 2), 0);
        due("f", book.told(4, 3), 25);
        due("blanks", book.told(0, 2), 15);
        book.formula(4, 0, 0, 16, 0);
        due("f 0", book.told(4, 3), 0);
        due("blanks", book.told(4, 2), 15);
        for (int what : new int[] {-1, 4, Integer.MIN_VALUE, Integer.MAX_VALUE}) {
            due("no what", book.told(4, what), -1);
            due("no what of the book", book.told(12, what), -1);
        }
        due("no what of the book", book.told(12, 3), -1);
        for (int column : new int[] {-1, 13, 16, Integer.MIN_VALUE, Integer.MAX_VALUE}) {
            due("no column", book.told(column, 0), -1);
        }
        book.alarm(0, 0, 0);
        book.ring();
        book.ring();
        due("changes", book.told(12, 0), 4);
        due("alarms", book.told(12, 1), 1);
        due("rings", book.told(12, 2), 2);
    }

    private static void staysUpToDate() {
        TideBook book = new TideBook();
        book.set(0, 0, 1, 0);
        for (int column = 1; column < 12; column++) {
            book.formula(column, 9, column - 1, column - 1, 0);
        }
        check.due("2^11", book.reading(11, 0), 2048.0);
        book.set(0, 0, 3, 0);
        check.due("3 * 2^11", book.reading(11, 0), 6144.0);
        book.formula(5, 8, 4, 16, 0);
        check.due("-3 * 2^10", book.reading(11, 0), -3072.0);
        check.due("lower ones stay", book.reading(4, 0), 48.0);
        book.width(0, true);
        book.set(0, 0, 16777217, 0);
        check.due("-2^24 * 2^10", book.reading(11, 0), -Math.scalb(1.0, 34));
        book.input(10);
        book.set(0, 0, 1, 0);
        check.due("column 10 is an input", book.reading(11, 0), -Math.scalb(1.0, 34));
        book.back();
        book.back();
        book.set(0, 0, 1, 0);
        check.due("-2^10", book.reading(11, 0), -1024.0);
    }

    private static void manyChanges() {
        TideBook book = new TideBook();
        for (int k = 1; k <= 250; k++) {
            due("change " + k, k % 2 == 0 ? book.width(3, k % 4 == 2) : book.set(3, k % 16, k, 0), 1);
        }
        due("told", book.told(12, 0), 250);
        for (int k = 249; k >= 0; k--) {
            due("back", book.back(), k);
        }
        due("back", book.back(), -1);
        due("all blank", book.told(3, 2), 16);
    }

    private static void nothingButChanges() {
        TideBook book = new TideBook();
        for (int k = 1; k <= 512; k++) {
            due("change " + k, book.constant(k % 8, k, 0), 1);
        }
        TideBook other = new TideBook();
        for (int k = 1; k <= 511; k++) {
            due("change " + k, other.width(0, k % 2 == 1), 1);
        }
        due("told", other.told(12, 0), 511);
    }
}
