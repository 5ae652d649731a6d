import java.util.ArrayList;
import java.util.Arrays;
import java.util.List;

/** The boundary cases of CHANGES, ALARMS and the promises 1 to 18, sentence by sentence. */
public final class BoundaryCallsTest {
    private static final Check check = new Check("BoundaryCallsTest");
    private static final Rows rows = new Rows(check);
    private static final double B = Rows.B;
    private static final int LEAST = Integer.MIN_VALUE;
    private static final int MOST = Integer.MAX_VALUE;
    private static final int[] NO_COLUMN = {-1, 12, 13, 15, 16, 23, LEAST, MOST};
    private static final int[] NO_PLACE = {-1, 16, 17, LEAST, MOST};
    private static final int[] NO_COMPARISON = {-1, 12, LEAST, MOST};

    public static void main(String[] args) {
        columnsAndPlaces();
        atFirst();
        constantsAtFirst();
        changesThatChangeNothing();
        latestChange();
        alwaysAsNow();
        alwaysAsNowForEach();
        eachChangeTakenBack();
        alarmsNotTakenBack();
        tenAlarms();
        alarmsOfSameColumnAndConstants();
        alarmsAtAllPlaces();
        alarmsAsWide();
        ringsAnew();
        firstLook();
        newObject();
        set();
        special();
        constant();
        constantSpecial();
        formula();
        formulaEdges();
        formulaOverAny();
        input();
        width();
        back();
        backOfFullRun();
        alarm();
        ring();
        readings();
        readingsByAll();
        bitsOfEnds();
        compared();
        alarmed();
        alarmedNone();
        told();
        toldOfBook();
        toldNone();
        check.end();
    }

    private static void due(String call, long got, long want) {
        check.due(call, got, want);
    }

    private static void columnsAndPlaces() {
        check.says("COLUMNS 0 .. 11 have 16 PLACES, 0 .. 15, each");
        TideBook book = new TideBook();
        int[][] corners = {{0, 0}, {0, 15}, {11, 0}, {11, 15}};
        for (int[] at : corners) {
            due("set", book.set(at[0], at[1], 100 * at[0] + at[1] + 1, 0), 1);
        }
        double[] first = new double[16];
        Arrays.fill(first, B);
        double[] last = first.clone();
        first[0] = 1;
        first[15] = 16;
        last[0] = 1101;
        last[15] = 1116;
        rows.look("column 0", book, 0, false, first);
        rows.look("column 11", book, 11, false, last);
        for (int column = 1; column < 11; column++) {
            due("the others are as they were", book.told(column, 2), 16);
        }
    }

    private static void atFirst() {
        check.says("at first all are WIDE INPUTS, all places BLANK.");
        TideBook book = new TideBook();
        for (int column = 0; column < 12; column++) {
            for (int place = 0; place < 16; place++) {
                check.due("isBlank", book.isBlank(column, place), true);
            }
            due("formula", book.told(column, 0), 0);
            due("narrow", book.told(column, 1), 0);
            due("blank places", book.told(column, 2), 16);
            due("f", book.told(column, 3), -1);
            due("input already", book.input(column), 0);
            due("wide already", book.width(column, false), 0);
        }
    }

    private static void constantsAtFirst() {
        check.says("CONSTANTS 0 .. 7 are wide readings, BLANK at first.");
        TideBook book = new TideBook();
        for (int k = 0; k < 8; k++) {
            due("formula", book.formula(1 + k, 18, 0, 16 + k, 0), 1);
            due("blank", book.told(1 + k, 2), 16);
        }
        for (int k = 0; k < 8; k++) {
            due("constant", book.constant(k, 16777217 + 2 * k, 0), 1);
            check.due("wide", book.reading(1 + k, 15), 16777217.0 + 2 * k);
            due("those behind are blank", k == 7 ? 16 : book.told(2 + k, 2), 16);
        }
    }

    private static void changesThatChangeNothing() {
        check.says("that are not refused (also such as leave all as it is)");
        TideBook book = new TideBook();
        due("blank, as it is", book.special(3, 4, 0), 1);
        due("blank, as it is", book.constantSpecial(2, 0), 1);
        due("formula", book.formula(5, 9, 1, 2, 3), 1);
        due("the same formula", book.formula(5, 9, 1, 2, 3), 1);
        due("set", book.set(3, 4, 7, 0), 1);
        due("the same", book.set(3, 4, 14, -1), 1);
        due("constant", book.constant(2, 7, 0), 1);
        due("the same", book.constant(2, 7, 0), 1);
        due("width of blanks", book.width(6, true), 1);
        due("changes", book.told(12, 0), 9);
        due("refused: input", book.input(6), 0);
        due("refused: width", book.width(6, true), 0);
        due("refused: set", book.set(5, 0, 1, 0), 0);
        due("refused: special", book.special(0, 0, 6), 0);
        due("refused: constant", book.constant(8, 1, 0), 0);
        due("refused: constantSpecial", book.constantSpecial(0, 6), 0);
        due("refused: formula", book.formula(0, 0, 0, 16, 0), 0);
        due("changes", book.told(12, 0), 9);
        for (int left = 8; left >= 0; left--) {
            due("back", book.back(), left);
            int want = left >= 5 ? 15 : 16;
            due("blank places", book.told(3, 2), want);
            due("formula", book.told(5, 3), left >= 3 ? 9 : -1);
            due("narrow", book.told(6, 1), 0);
        }
        due("back", book.back(), -1);
    }

    private static void latestChange() {
        check.says("back() takes back the latest one that was not yet taken back");
        TideBook book = new TideBook();
        due("set 1", book.set(0, 0, 1, 0), 1);
        due("set 2", book.set(0, 0, 2, 0), 1);
        due("set 3", book.set(0, 0, 3, 0), 1);
        due("back", book.back(), 2);
        check.due("2", book.reading(0, 0), 2.0);
        due("set 4", book.set(0, 0, 4, 0), 1);
        due("back", book.back(), 2);
        check.due("2 again, not 3", book.reading(0, 0), 2.0);
        due("back", book.back(), 1);
        check.due("1", book.reading(0, 0), 1.0);
        due("set 5", book.set(0, 0, 5, 0), 1);
        due("back", book.back(), 1);
        check.due("1 again", book.reading(0, 0), 1.0);
        due("back", book.back(), 0);
        check.due("blank", book.isBlank(0, 0), true);
        due("back", book.back(), -1);
        due("a refused call is none", book.set(0, 0, 1, 901), 0);
        due("back", book.back(), -1);
    }

    /** Column k is 2^k times column 0 + constant 7, the lower ones being looked at first, or never. */
    private static void alwaysAsNow() {
        check.says("columns that are made of others by formulas are always what these make of what stands there now");
        for (int looked = 0; looked <= 11; looked++) {
            TideBook book = new TideBook();
            due("formula", book.formula(1, 9, 0, 23, 0), 1);
            for (int column = 2; column < 12; column++) {
                due("formula", book.formula(column, 9, column - 1, column - 1, 0), 1);
            }
            chain(book, looked, "all blank", B);
            due("set", book.set(0, 15, 3, 0), 1);
            chain(book, looked, "the constant is blank", B);
            due("constant", book.constant(7, 1, 0), 1);
            chain(book, looked, "4", 4);
            due("special", book.special(0, 15, 3), 1);
            chain(book, looked, "1", 1);
            due("constantSpecial", book.constantSpecial(7, 2), 1);
            chain(book, looked, "infinite", -Rows.INF);
            due("back", book.back() + book.back(), 14 + 13);
            chain(book, looked, "4 again", 4);
            due("width", book.set(0, 15, 16777217, 0) + book.width(0, true), 2);
            chain(book, looked, "brought", 16777217);
            due("input", book.input(1), 1);
            due("source", book.set(0, 15, 1, 0), 1);
            chain(book, looked, "as it was", 16777217);
            due("back", book.back() + book.back() + book.back() + book.back(), 16 + 15 + 14 + 13);
            chain(book, looked, "4 again", 4);
        }
    }

    private static void chain(TideBook book, int looked, String what, double one) {
        double due = looked == 0 ? B : Math.scalb(one, looked - 1);
        if (looked > 0) {
            check.due(what + " in " + looked, book.reading(looked, 15), Double.isNaN(due) ? 0.0 : due);
        }
        check.due(what + " in 11", book.reading(11, 15), Double.isNaN(one) ? 0.0 : Math.scalb(one, 10));
        due(what + " in 11, blank places", book.told(11, 2), Double.isNaN(one) ? 16 : 15);
    }

    /** Each call that looks is the first one to look at a column after a change. */
    private static void alwaysAsNowForEach() {
        check.says("are always what these make of what stands there now");
        for (int last = 1; last < 12; last++) {
            int column = last;
            check.due("reading", minusOf(column).reading(column, 15), -2.0);
            check.due("isBlank", minusOf(column).isBlank(column, 15), false);
            check.due("isMinus", minusOf(column).isMinus(column, 15), true);
            due("bits", minusOf(column).bits(column, 15), 3L << 62);
            due("compared", minusOf(column).compared(column, 4, column), 1);
            due("compared", minusOf(column).compared(0, 2, column), 1);
            due("told", minusOf(column).told(column, 2), 15);
            TideBook book = minusOf(column);
            due("input", book.input(column) + book.special(0, 15, 0), 2);
            check.due("input", book.reading(column, 15), -2.0);
            book = minusOf(column);
            due("alarms", book.alarm(column, 4, column) + book.alarm(0, 2, column), 1);
            due("ring", book.ring(), 2);
        }
    }

    /** Column 0 is 2 at place 15, the column is made of it by 8; it was looked at while all was blank. */
    private static TideBook minusOf(int column) {
        TideBook book = new TideBook();
        due("formula", book.formula(column, 8, 0, 16, 0), 1);
        due("all blank", book.told(column, 2), 16);
        due("set", book.set(0, 15, 2, 0), 1);
        return book;
    }

    /** A change of some kind: back() brings all that can be seen to what it was. */
    private interface Call {
        int on(TideBook book);
    }

    private static void backFrom(String what, Call change) {
        TideBook book = SeenBook.rich();
        int changes = book.told(12, 0);
        due(what, change.on(book), 1);
        due(what + ": back", book.back(), changes);
        check.due(what + " taken back", SeenBook.seen(book), SeenBook.seen(SeenBook.rich()));
    }

    private static void eachChangeTakenBack() {
        check.says("columns, constants and formulas are as before it.");
        for (int place = 0; place < 16; place++) {
            int at = place;
            backFrom("set", book -> book.set(0, at, 77, 3));
            backFrom("special", book -> book.special(1, at, 2));
            backFrom("set narrow", book -> book.set(10, at, 77, 200));
        }
        for (int k = 0; k < 8; k++) {
            int at = k;
            backFrom("constant", book -> book.constant(at, 12345, 5));
            for (int what = 0; what < 6; what++) {
                int of = what;
                backFrom("constantSpecial", book -> book.constantSpecial(at, of));
            }
        }
        for (int column = 0; column < 12; column++) {
            int at = column;
            boolean narrow = SeenBook.rich().told(at, 1) == 1;
            backFrom("width of " + at, book -> book.width(at, !narrow));
            if (column > 0) {
                backFrom("formula of " + at, book -> book.formula(at, 25, 0, 16, 5));
            }
            if (SeenBook.rich().told(at, 0) == 1) {
                backFrom("input of " + at, book -> book.input(at));
            }
        }
    }

    private static void alarmsNotTakenBack() {
        check.says("(Alarms are not taken back.)");
        TideBook book = new TideBook();
        due("set", book.set(0, 3, 1, 0), 1);
        due("alarm", book.alarm(0, 4, 0), 0);
        due("ring", book.ring(), 1);
        due("back", book.back(), 0);
        due("alarms", book.told(12, 1), 1);
        due("rings", book.told(12, 2), 1);
        due("it held at the latest ring", book.alarmed(0, 0), 1);
        due("it rang at 3", book.alarmed(0, 2), 3);
        due("nothing is left to take back", book.back(), -1);
        due("alarms", book.told(12, 1), 1);
        due("set", book.set(0, 3, 1, 0), 1);
        due("it held at the ring before, so it does not ring", book.ring(), 0);
        due("back", book.back(), 0);
        due("ring", book.ring(), 0);
        due("set", book.set(0, 3, 1, 0), 1);
        due("it did not hold at the ring before", book.ring(), 1);
    }

    private static void tenAlarms() {
        check.says("ALARMS, at most 10");
        TideBook book = new TideBook();
        for (int k = 0; k < 10; k++) {
            due("alarm", book.alarm(11 - k, 11 - k, 23 - k % 8), k);
            due("alarms", book.told(12, 1), k + 1);
        }
        due("5 to 10 are so of blanks", book.ring(), 6 * 16);
        due("the eleventh", book.alarm(0, 5, 0), -1);
        due("alarms", book.told(12, 1), 10);
        due("rung no more than ten", book.ring(), 0);
        due("there is no alarm 10", book.alarmed(10, 0), -1);
        due("alarm 9 is there", book.alarmed(9, 1), 0);
    }

    private static void alarmsOfSameColumnAndConstants() {
        check.says("and b (a column, also the same one, or 16 .. 23: a constant).");
        TideBook book = new TideBook();
        due("set", book.set(2, 5, 7, 0), 1);
        due("constants", book.constant(0, 7, 0) + book.constant(7, 8, 0), 2);
        due("the same column, equal", book.alarm(2, 4, 2), 0);
        due("a higher one", book.alarm(2, 5, 11), 1);
        due("a lower one", book.alarm(2, 4, 0), 2);
        due("constant 0, equal", book.alarm(2, 4, 16), 3);
        due("constant 7, less", book.alarm(2, 0, 23), 4);
        due("constant 6, blank: not equal", book.alarm(2, 5, 22), 5);
        due("ring", book.ring(), 1 + 16 + 0 + 1 + 1 + 16);
        int[] rang = {1, 16, 0, 1, 1, 16};
        for (int k = 0; k < 6; k++) {
            due("alarm " + k, book.alarmed(k, 1), rang[k]);
        }
    }

    private static void alarmsAtAllPlaces() {
        check.says("At a RING each alarm is looked at, at all places");
        for (int place = 0; place < 16; place++) {
            TideBook book = new TideBook();
            due("alarms", book.alarm(0, 4, 0) + book.alarm(1, 4, 16), 1);
            due("set", book.set(0, place, 1, 0) + book.set(1, 15 - place, 2, 0) + book.constant(0, 2, 0), 3);
            due("ring", book.ring(), 2);
            due("first", book.alarmed(0, 2), place);
            due("first", book.alarmed(1, 2), 15 - place);
        }
    }

    private static void alarmsAsWide() {
        check.says("it HOLDS where c of the column's reading and b's is so (both as wide numbers)");
        TideBook book = new TideBook();
        due("narrow", book.width(1, true), 1);
        due("constant", book.constant(0, 16777217, 0), 1);
        for (int place = 0; place < 16; place++) {
            due("set", book.set(0, place, 16777217, 0) + book.set(1, place, 16777217, 0), 2);
        }
        due("alarms", book.alarm(1, 4, 0) + book.alarm(1, 0, 16) + book.alarm(0, 4, 16) + book.alarm(0, 2, 1), 6);
        due("ring", book.ring(), 48);
        int[] held = {0, 16, 16, 16};
        for (int k = 0; k < 4; k++) {
            due("held", book.alarmed(k, 0), held[k]);
        }
    }

    private static void ringsAnew() {
        check.says("and RINGS where it holds and did not at the ring before");
        TideBook book = new TideBook();
        due("alarm", book.alarm(0, 4, 0), 0);
        due("places 0 and 15", book.set(0, 0, 1, 0) + book.set(0, 15, 1, 0), 2);
        due("ring", book.ring(), 2);
        due("it holds still", book.ring(), 0);
        due("it held", book.alarmed(0, 0), 2);
        due("no first place", book.alarmed(0, 2), -1);
        due("blank", book.special(0, 0, 0), 1);
        due("it holds no more at 0", book.ring(), 0);
        due("other number, holds still at 15", book.set(0, 15, 9, 0), 1);
        due("back and away between rings", book.special(0, 15, 0) + book.set(0, 15, 3, 0), 2);
        due("it held at both rings", book.ring(), 0);
        due("again at 0", book.set(0, 0, 1, 0), 1);
        due("it rings again", book.ring(), 1);
        due("at 0", book.alarmed(0, 2), 0);
        due("at both it held", book.alarmed(0, 0), 2);
    }

    private static void firstLook() {
        check.says("(nowhere, ahead of the first one that it is looked at)");
        TideBook book = new TideBook();
        for (int place = 0; place < 16; place++) {
            due("set", book.set(0, place, 1, 0), 1);
        }
        due("ring without alarms", book.ring(), 0);
        due("alarm", book.alarm(0, 4, 0), 0);
        due("all places ring", book.ring(), 16);
        due("a later one of the same", book.alarm(0, 4, 0), 1);
        due("the later one rings", book.ring(), 16);
        due("the first does not", book.alarmed(0, 1), 0);
        due("the later one did", book.alarmed(1, 1), 16);
        due("ring", book.ring(), 0);
    }

    private static void newObject() {
        check.says("As told above; no alarms, no changes.");
        TideBook book = new TideBook();
        due("changes", book.told(12, 0), 0);
        due("alarms", book.told(12, 1), 0);
        due("rings", book.told(12, 2), 0);
        due("back", book.back(), -1);
        for (int k = 0; k < 10; k++) {
            for (int what = 0; what < 3; what++) {
                due("no alarm", book.alarmed(k, what), -1);
            }
        }
        TideBook other = new TideBook();
        due("set", book.set(0, 0, 1, 0) + book.constant(0, 1, 0), 2);
        due("another object is another", other.told(0, 2), 16);
        due("another object is another", other.back(), -1);
    }

    /** The call answers so, and all that can be seen is as without it. */
    private static void refused(String what, int want, Call call) {
        TideBook book = SeenBook.rich();
        due(what, call.on(book), want);
        check.due(what + " does nothing", SeenBook.seen(book), SeenBook.seen(SeenBook.rich()));
    }

    private static void set() {
        check.says("The reading of an INPUT: m * 2^e, brought to its width. 1;");
        TideBook book = new TideBook();
        int[][] ends = {{1, -1000}, {-1, -1000}, {1, 900}, {-1, 900}, {MOST, 900}, {LEAST, 900}, {MOST, -1000},
            {LEAST, -1000}, {0, -1000}, {0, 900}, {1, -999}, {1, 899}, {MOST, 0}, {LEAST, 0}};
        for (int[] end : ends) {
            due("set " + end[0] + ", " + end[1], book.set(11, 15, end[0], end[1]), 1);
            check.due("reading", book.reading(11, 15), Math.scalb((double) end[0], end[1]));
        }
        for (int e = -1000; e <= 900; e++) {
            book = e % 100 == 0 ? new TideBook() : book;
            due("set 3, " + e, book.set(0, 0, 3, e) + book.constant(0, -3, e), 2);
            check.due("reading", book.reading(0, 0), Math.scalb(3.0, e));
        }
        check.says("0, and nothing is done: there is no such column or place,");
        for (int column : NO_COLUMN) {
            refused("set, no column", 0, rich -> rich.set(column, 0, 1, 0));
        }
        for (int place : NO_PLACE) {
            refused("set, no place", 0, rich -> rich.set(0, place, 1, 0));
            refused("set, neither", 0, rich -> rich.set(place, place, 1, 0));
        }
        check.says("it has a formula,");
        for (int column = 2; column < 10; column++) {
            int at = column;
            refused("set of a formula", 0, rich -> rich.set(at, 0, 1, 0));
            refused("set of a formula", 0, rich -> rich.set(at, 15, 1, 0));
        }
        check.says("or e is not -1000 .. 900.");
        for (int e : new int[] {-1001, 901, -1002, 902, LEAST, MOST}) {
            refused("set, no e", 0, rich -> rich.set(0, 0, 1, e));
            refused("set of 0, no e", 0, rich -> rich.set(0, 0, 0, e));
            refused("set of a narrow one, no e", 0, rich -> rich.set(10, 15, 1, e));
        }
    }

    private static void special() {
        check.says("Likewise: what = 0 BLANK; 1 infinite, 2 infinite with a -; 3 -0; 4 the greatest number of its width "
                + "that is not infinite; 5 the least one above 0.");
        TideBook book = new TideBook();
        due("narrow", book.width(11, true), 1);
        for (int place = 10; place < 16; place++) {
            due("a number before", book.set(0, place, 7, 0) + book.set(11, place, -7, 0), 2);
        }
        for (int what = 0; what < 6; what++) {
            due("special", book.special(0, 10 + what, what) + book.special(11, 10 + what, what), 2);
        }
        rows.look("wide", book, 0, false, B, B, B, B, B, B, B, B, B, B, B, Rows.INF, -Rows.INF, -0.0, Rows.BIG, Rows.TINY);
        rows.look("narrow", book, 11, true, B, B, B, B, B, B, B, B, B, B, B, Rows.INF, -Rows.INF, -0.0, Rows.FBIG,
                Rows.FTINY);
        due("twice the greatest", book.formula(1, 7, 0, 16, 0), 1);
        check.due("is infinite", book.reading(1, 14), Rows.INF);
        due("half of the least", book.formula(1, 6, 0, 16, 0), 1);
        check.due("is 0", book.reading(1, 15), 0.0);
        for (int column : NO_COLUMN) {
            refused("special, no column", 0, rich -> rich.special(column, 0, 1));
        }
        for (int place : NO_PLACE) {
            refused("special, no place", 0, rich -> rich.special(0, place, 1));
            refused("special, neither", 0, rich -> rich.special(place, place, 1));
        }
        for (int column = 2; column < 10; column++) {
            int at = column;
            refused("special of a formula", 0, rich -> rich.special(at, 0, 1));
            refused("special of a formula", 0, rich -> rich.special(at, 15, 0));
        }
        check.says("0, too: there is no such what.");
        for (int what : new int[] {-1, 6, 7, LEAST, MOST}) {
            refused("special, no what", 0, rich -> rich.special(0, 0, what));
            refused("special of a narrow one, no what", 0, rich -> rich.special(10, 15, what));
        }
    }

    private static void constant() {
        check.says("A constant: m * 2^e. 1;");
        TideBook book = new TideBook();
        due("formulas", book.formula(1, 18, 0, 16, 0) + book.formula(2, 18, 0, 23, 0), 2);
        int[][] ends = {{1, -1000}, {-1, -1000}, {1, 900}, {MOST, 900}, {LEAST, 900}, {MOST, -1000}, {0, 900}};
        for (int[] end : ends) {
            due("constant " + end[0] + ", " + end[1], book.constant(0, end[0], end[1]), 1);
            due("constant " + end[0] + ", " + end[1], book.constant(7, end[0], end[1]), 1);
            double want = Math.scalb((double) end[0], end[1]);
            check.due("constant 0", book.reading(1, 15), want);
            check.due("constant 7", book.reading(2, 0), want);
        }
        check.says("0, and nothing is done: there is none such, or e is not -1000 .. 900.");
        for (int k : new int[] {-1, 8, 9, 16, 23, LEAST, MOST}) {
            refused("constant, no k", 0, rich -> rich.constant(k, 1, 0));
        }
        for (int e : new int[] {-1001, 901, LEAST, MOST}) {
            refused("constant, no e", 0, rich -> rich.constant(0, 1, e));
            refused("constant 7, no e", 0, rich -> rich.constant(7, 0, e));
        }
    }

    private static void constantSpecial() {
        check.says("Likewise: what as by special() (of wide numbers).");
        for (int k : new int[] {-1, 8, 9, 16, 23, LEAST, MOST}) {
            refused("constantSpecial, no k", 0, book -> book.constantSpecial(k, 1));
        }
        for (int what : new int[] {-1, 6, 7, LEAST, MOST}) {
            refused("constantSpecial, no what", 0, book -> book.constantSpecial(0, what));
            refused("constantSpecial, no what", 0, book -> book.constantSpecial(7, what));
        }
        double[] wide = {B, Rows.INF, -Rows.INF, -0.0, Rows.BIG, Rows.TINY};
        double[] brought = {B, Rows.INF, -Rows.INF, -0.0, Rows.INF, 0.0};
        for (int what = 0; what < 6; what++) {
            TideBook book = new TideBook();
            due("a number before", book.constant(7, 1, 0), 1);
            due("constantSpecial", book.constantSpecial(7, what), 1);
            due("wide", book.formula(1, 18, 0, 23, 0), 1);
            rows.look("wide " + what, book, 1, false, Rows.same(wide[what]));
            due("narrow", book.formula(2, 18, 0, 23, 0) + book.width(2, true), 2);
            rows.look("narrow " + what, book, 2, true, Rows.same(brought[what]));
        }
    }

    private static void formula() {
        check.says("1; 0, and nothing is done: there is no such column,");
        for (int column : NO_COLUMN) {
            refused("no column", 0, book -> book.formula(column, 0, 0, 16, 0));
        }
        check.says("f is not 0 .. 26,");
        for (int f : new int[] {-1, 27, 28, LEAST, MOST}) {
            refused("no f", 0, book -> book.formula(5, f, 0, 16, 0));
            refused("no f of an input", 0, book -> book.formula(11, f, 0, 16, 0));
        }
        check.says("a no column with a lower number, b neither such a one nor 16 .. 23, c not 0 .. 11 "
                + "(all, whether they count or not).");
        for (int f = 0; f <= 26; f++) {
            int of = f;
            for (int a : new int[] {-1, 5, 6, 11, 12, 16, 23, LEAST, MOST}) {
                refused("f " + f + ", no a", 0, book -> book.formula(5, of, a, 16, 0));
            }
            for (int b : new int[] {-1, 5, 6, 11, 12, 15, 24, LEAST, MOST}) {
                refused("f " + f + ", no b", 0, book -> book.formula(5, of, 0, b, 0));
            }
            for (int c : NO_COMPARISON) {
                refused("f " + f + ", no c", 0, book -> book.formula(5, of, 0, 16, c));
            }
            refused("f " + f + " of column 0", 0, book -> book.formula(0, of, 0, 16, 0));
        }
    }

    private static void formulaEdges() {
        check.says("a a column with a lower number than its own; b likewise, or 16 .. 23: CONSTANT b - 16; "
                + "c a comparison.");
        for (int column = 0; column < 12; column++) {
            TideBook book = new TideBook();
            for (int a = -1; a < 13; a++) {
                due("formula of " + column + ", a " + a, book.formula(column, 0, a, 16, 0), a >= 0 && a < column ? 1 : 0);
            }
            for (int b = -1; b < 26; b++) {
                boolean due = column > 0 && (b >= 0 && b < column || b >= 16 && b < 24);
                due("formula of " + column + ", b " + b, book.formula(column, 9, 0, b, 0), due ? 1 : 0);
            }
            for (int c = -1; c < 14; c++) {
                due("formula of " + column + ", c " + c, book.formula(column, 17, 0, 16, c),
                        column > 0 && c >= 0 && c < 12 ? 1 : 0);
            }
            for (int f = -1; f < 29; f++) {
                due("formula of " + column + ", f " + f, book.formula(column, f, 0, 16, 0),
                        column > 0 && f >= 0 && f < 27 ? 1 : 0);
                due("f", book.told(column, 3), column == 0 ? -1 : f < 0 ? 17 : Math.min(f, 26));
            }
        }
    }

    private static void formulaOverAny() {
        check.says("A column has a formula from now on (it had one, or not).");
        TideBook book = new TideBook();
        due("set", book.set(0, 0, 3, 0) + book.set(11, 0, 5, 0) + book.set(11, 15, 6, 0), 3);
        due("it had none", book.formula(11, 7, 0, 16, 0), 1);
        rows.look("twice", book, 11, false, 6);
        due("it had one", book.formula(11, 8, 0, 16, 0), 1);
        rows.look("other sign", book, 11, false, -3);
        due("told", book.told(11, 0), 1);
        due("from now on", book.set(0, 0, 4, 0), 1);
        rows.look("other sign", book, 11, false, -4);
        due("back", book.back() + book.back() + book.back(), 5 + 4 + 3);
        rows.look("the input's own", book, 11, false, 5, B, B, B, B, B, B, B, B, B, B, B, B, B, B, 6);
    }

    private static void input() {
        check.says("A column is an INPUT, with the readings that it has now. 1;");
        TideBook book = new TideBook();
        due("own readings before", book.set(11, 0, 9, 0) + book.set(11, 7, 9, 0), 2);
        due("formula", book.formula(11, 9, 0, 16, 0) + book.width(11, true) + book.constant(0, 1, 0), 3);
        due("sources", book.set(0, 0, 16777216, 0) + book.set(0, 15, -1, 0) + book.set(0, 3, 1, 200), 3);
        due("input, never looked at before", book.input(11), 1);
        double[] now = {16777216, B, B, Rows.INF, B, B, B, B, B, B, B, B, B, B, B, 0.0};
        rows.look("as they are now", book, 11, true, now);
        due("sources change", book.constant(0, 50, 0) + book.special(0, 0, 0), 2);
        rows.look("no more", book, 11, true, now);
        due("narrow still", book.told(11, 1), 1);
        due("it can be set", book.set(11, 15, 16777217, 0), 1);
        check.due("narrow", book.reading(11, 15), 16777216.0);
        due("it is one now", book.input(11), 0);
        check.says("0, and nothing is done: there is none such, or it is one.");
        for (int column : NO_COLUMN) {
            refused("no column", 0, rich -> rich.input(column));
        }
        for (int column : new int[] {0, 1, 10, 11}) {
            refused("it is one", 0, rich -> rich.input(column));
        }
    }

    private static void width() {
        check.says("A column is NARROW from now on, or WIDE: an INPUT's readings are brought to that. 1;");
        TideBook book = new TideBook();
        due("set", book.set(0, 0, 16777217, 0) + book.set(0, 15, 1, 200) + book.set(0, 7, -1, -200), 3);
        due("formula", book.formula(11, 0, 0, 16, 0), 1);
        double[] wide = {16777217, B, B, B, B, B, B, -0x1p-200, B, B, B, B, B, B, B, 0x1p200};
        double[] narrow = {16777216, B, B, B, B, B, B, -0.0, B, B, B, B, B, B, B, Rows.INF};
        due("a formula's column, narrow", book.width(11, true), 1);
        rows.look("narrow", book, 11, true, narrow);
        due("and wide", book.width(11, false), 1);
        rows.look("its formula reckons all digits again", book, 11, false, wide);
        due("an input, narrow", book.width(0, true), 1);
        rows.look("brought", book, 0, true, narrow);
        due("and wide", book.width(0, false), 1);
        rows.look("what was left out stays out", book, 0, false, narrow);
        due("from now on wide", book.set(0, 0, 16777217, 0), 1);
        check.due("wide", book.reading(0, 0), 16777217.0);
        check.says("0, and nothing is done: there is none such, or it is so already.");
        for (int column : NO_COLUMN) {
            refused("no column", 0, rich -> rich.width(column, true));
            refused("no column", 0, rich -> rich.width(column, false));
        }
        for (int column = 0; column < 12; column++) {
            int at = column;
            boolean already = SeenBook.rich().told(column, 1) == 1;
            refused("so already", 0, rich -> rich.width(at, already));
        }
    }

    private static void back() {
        check.says("The latest change is taken back: how many can still be.");
        TideBook book = new TideBook();
        due("two", book.set(0, 0, 1, 0) + book.width(0, true), 2);
        due("alarms and rings are none", book.alarm(0, 4, 0) + book.ring(), 1);
        due("one is left", book.back(), 1);
        due("wide again", book.told(0, 1), 0);
        due("none is left", book.back(), 0);
        due("blank", book.told(0, 2), 16);
        check.says("-1: there is none.");
        due("there is none", book.back(), -1);
        due("there is none, still", book.back(), -1);
        due("changes", book.told(12, 0), 0);
        due("one", book.set(0, 0, 1, 0), 1);
        due("the last one", book.back(), 0);
        due("there is none", book.back(), -1);
        due("alarms stay", book.told(12, 1), 1);
        due("none of a new book", new TideBook().back(), -1);
    }

    /** All 512 calls of an object: half of them change, the other half take back. */
    private static void backOfFullRun() {
        check.says("An object is used for at most 512 calls after it has been made");
        TideBook book = new TideBook();
        for (int k = 0; k < 256; k++) {
            int got = k % 3 == 0 ? book.set(11, k % 16, k, 0) : k % 3 == 1 ? book.width(11, k % 2 == 1)
                    : book.constant(k % 8, k, 0);
            due("change " + k, got, 1);
        }
        for (int left = 255; left >= 0; left--) {
            due("back", book.back(), left);
        }
        TideBook other = new TideBook();
        TideBook third = new TideBook();
        for (int k = 0; k < 511; k++) {
            int got = k % 2 == 0 ? other.formula(11, k % 27, k % 11, 16 + k % 8, k % 12) : other.input(11);
            due("change " + k, got, 1);
            due("change " + k, third.special(11, k % 16, k % 6), 1);
        }
        due("the last call", other.back(), 510);
        due("the last call", third.special(11, 15, 5), 1);
    }

    private static void alarm() {
        check.says("One more alarm: its number, from 0.");
        TideBook book = new TideBook();
        int[][] ends = {{0, 0, 0}, {11, 11, 11}, {0, 11, 16}, {11, 0, 23}, {5, 5, 5}, {0, 0, 11}, {11, 0, 0},
            {1, 1, 17}, {2, 2, 2}, {3, 3, 3}};
        for (int k = 0; k < 10; k++) {
            due("alarm", book.alarm(ends[k][0], ends[k][1], ends[k][2]), k);
        }
        due("alarm 4 alone holds of blanks", book.ring(), 16);
        check.says("-1, and nothing is done: there is no such column, c or b;");
        for (int column : NO_COLUMN) {
            refused("no column", -1, rich -> rich.alarm(column, 5, 0));
        }
        for (int c : NO_COMPARISON) {
            refused("no c", -1, rich -> rich.alarm(0, c, 0));
        }
        for (int b : new int[] {-1, 12, 13, 14, 15, 24, 25, LEAST, MOST}) {
            refused("no b", -1, rich -> rich.alarm(0, 5, b));
        }
        check.says("or there are 10.");
        for (int[] end : ends) {
            due("there are 10", book.alarm(end[0], end[1], end[2]), -1);
        }
        due("alarms", book.told(12, 1), 10);
        due("as at the ring", book.alarmed(4, 0), 16);
        due("nothing new rings", book.ring(), 0);
    }

    private static void ring() {
        check.says("A RING: at how many places alarms ring, in all.");
        TideBook book = new TideBook();
        due("no alarms", book.ring(), 0);
        due("rings", book.told(12, 2), 1);
        for (int k = 0; k < 10; k++) {
            due("alarm", book.alarm(k, 10, 23), k);
        }
        due("all places of all alarms", book.ring(), 160);
        due("none again", book.ring(), 0);
        due("one place of one alarm no more", book.constant(7, 1, 0) + book.set(9, 15, 1, 0), 2);
        due("none", book.ring(), 0);
        due("again", book.special(9, 15, 0), 1);
        due("one place of one alarm", book.ring(), 1);
        due("rings", book.told(12, 2), 5);
    }

    private static void readings() {
        check.says("The reading, as a wide number; 0 where it is BLANK, or there is none such.");
        for (int[] at : noneSuch()) {
            check.due("reading", minusAtEnds().reading(at[0], at[1]), 0.0);
        }
        check.says("Whether it is BLANK; false, too, where there is none such.");
        for (int[] at : noneSuch()) {
            check.due("isBlank", minusAtEnds().isBlank(at[0], at[1]), false);
            check.due("isBlank of a new book", new TideBook().isBlank(at[0], at[1]), false);
        }
        check.says("Whether it is a number with a - (-0, too).");
        for (int[] at : noneSuch()) {
            check.due("isMinus", minusAtEnds().isMinus(at[0], at[1]), false);
        }
        check.says("0 where it is BLANK, or there is none such.");
        for (int[] at : noneSuch()) {
            due("bits", minusAtEnds().bits(at[0], at[1]), 0);
        }
    }

    private static void readingsByAll() {
        check.says("Whether it is a number with a - (-0, too).");
        TideBook book = new TideBook();
        due("numbers with a -", book.special(0, 0, 2) + book.special(0, 1, 3) + book.set(0, 2, -1, -1000), 3);
        due("numbers without", book.special(0, 3, 1) + book.set(0, 4, 0, 0) + book.special(0, 5, 5), 3);
        due("blank after a number with a -", book.set(0, 15, -1, 0) + book.special(0, 15, 0), 2);
        rows.look("readings", book, 0, false, -Rows.INF, -0.0, -0x1p-1000, Rows.INF, 0.0, Rows.TINY);
        due("narrow", book.width(0, true), 1);
        rows.look("readings", book, 0, true, -Rows.INF, -0.0, -0.0, Rows.INF, 0.0, 0.0);
        due("blank by a formula", book.formula(1, 10, 0, 0, 0), 1);
        rows.look("readings", book, 1, false, B, 0.0, 0.0, B, 0.0, 0.0);
    }

    /** Columns and places of which one, or both, are not there. */
    private static List<int[]> noneSuch() {
        List<int[]> list = new ArrayList<>();
        for (int column : NO_COLUMN) {
            for (int place : new int[] {0, 15, -1, 16}) {
                list.add(new int[] {column, place});
            }
        }
        for (int place : NO_PLACE) {
            for (int column : new int[] {0, 11, -1, 12}) {
                list.add(new int[] {column, place});
            }
        }
        return list;
    }

    /** Every column that there is has numbers with a - at its first and last place. */
    private static TideBook minusAtEnds() {
        TideBook book = new TideBook();
        for (int k = 0; k < 12; k++) {
            due("set", book.set(k, 0, -1, 0) + book.set(k, 15, -1, 0), 2);
        }
        return book;
    }

    private static void bitsOfEnds() {
        check.says("Its 64 bits (of a NARROW column its 32, as an int): the sign, the exponent and 1023 (127; 0 below "
                + "the least normal one), the digits behind the point; 0 where it is BLANK, or there is none such.");
        double[] wide = {0.0, -0.0, 1, -1, 2, Rows.BIG, -Rows.BIG, Rows.TINY, -Rows.TINY, 0x1p-1022,
            0x1.ffffffffffffep-1023, Rows.INF, -Rows.INF, 0x1.0000000000001p0, 0x1p1023, B};
        long[] wideBits = {0, 1L << 63, 0x3ffL << 52, 0xbffL << 52, 1L << 62, 0x7fefffffffffffffL, 0xffefffffffffffffL,
            1, 0x8000000000000001L, 1L << 52, 0xfffffffffffffL, 0x7ffL << 52, 0xfffL << 52, 0x3ff0000000000001L,
            0x7feL << 52, 0};
        double[] narrow = {0.0, -0.0, 1, -1, 2, Rows.FBIG, -Rows.FBIG, Rows.FTINY, -Rows.FTINY, 0x1p-126,
            0x1.fffffcp-127, Rows.INF, -Rows.INF, 0x1.000002p0, 0x1p127, B};
        int[] narrowBits = {0, 1 << 31, 0x7f << 23, 0x17f << 23, 1 << 30, 0x7f7fffff, 0xff7fffff, 1, 0x80000001,
            1 << 23, 0x7fffff, 0xff << 23, 0x1ff << 23, 0x3f800001, 0xfe << 23, 0};
        TideBook book = new TideBook();
        rows.fill(book, Rows.X, wide);
        rows.fill(book, Rows.Y, narrow);
        due("narrow", book.width(Rows.Y, true), 1);
        for (int place = 0; place < 16; place++) {
            due("wide bits of " + wide[place], book.bits(Rows.X, place), wideBits[place]);
            due("narrow bits of " + narrow[place], book.bits(Rows.Y, place), narrowBits[place]);
        }
    }

    private static void compared() {
        check.says("At how many of a column's places comparison c of its reading and of another column's "
                + "(or of the same one's) at the same place (both as wide numbers) is so.");
        TideBook book = new TideBook();
        int[] all = {0, 0, 0, 0, 0, 16, 16, 16, 16, 16, 16, 0};
        int[] same = {0, 16, 0, 16, 16, 0, 16, 0, 16, 0, 0, 16};
        for (int c = 0; c < 12; c++) {
            due("blanks by " + c, book.compared(0, c, 11), all[c]);
            due("blanks with themselves by " + c, book.compared(11, c, 11), all[c]);
        }
        due("narrow", book.width(11, true), 1);
        for (int place = 0; place < 16; place++) {
            due("set", book.set(0, place, 16777217 + 2 * place, 0) + book.set(11, place, 16777217 + 2 * place, 0), 2);
        }
        for (int c = 0; c < 12; c++) {
            due("the same by " + c, book.compared(0, c, 0), same[c]);
            due("the same, narrow, by " + c, book.compared(11, c, 11), same[c]);
        }
        due("as wide numbers: never equal", book.compared(0, 4, 11), 0);
        due("every other one is greater", book.compared(0, 2, 11), 8);
        due("at the same place", book.compared(11, 0, 0), 8);
        check.says("-1: there is no such column or c.");
        for (int column : NO_COLUMN) {
            refused("no column", -1, rich -> rich.compared(column, 5, 0));
            refused("no other", -1, rich -> rich.compared(0, 5, column));
            refused("neither", -1, rich -> rich.compared(column, 5, column));
        }
        for (int c : NO_COMPARISON) {
            refused("no c", -1, rich -> rich.compared(0, c, 0));
        }
    }

    private static void alarmed() {
        check.says("Of an alarm at the latest ring: at how many places it held (what = 0), rang (1); "
                + "the first place where it rang (2; -1 nowhere).");
        TideBook book = new TideBook();
        due("alarm", book.alarm(0, 4, 0), 0);
        due("ring", book.ring(), 0);
        due("held nowhere", book.alarmed(0, 0), 0);
        due("rang nowhere", book.alarmed(0, 1), 0);
        due("no first place", book.alarmed(0, 2), -1);
        due("the last place", book.set(0, 15, 1, 0), 1);
        due("as at the latest ring", book.alarmed(0, 0), 0);
        due("ring", book.ring(), 1);
        due("the first place where it rang", book.alarmed(0, 2), 15);
        due("the first place", book.set(0, 0, 1, 0), 1);
        due("ring", book.ring(), 1);
        due("held", book.alarmed(0, 0), 2);
        due("rang", book.alarmed(0, 1), 1);
        due("the first place where it rang", book.alarmed(0, 2), 0);
        due("a second alarm", book.alarm(0, 5, 0), 1);
        due("ring", book.ring(), 14);
        due("all but the two", book.alarmed(1, 0), 14);
        due("the first place where it rang", book.alarmed(1, 2), 1);
        for (int place = 0; place < 16; place++) {
            due("set", book.set(0, place, 1, 0), 1);
        }
        due("ring", book.ring(), 14);
        due("held at all places", book.alarmed(0, 0), 16);
        due("held nowhere", book.alarmed(1, 0), 0);
        due("rang nowhere", book.alarmed(1, 2), -1);
    }

    private static void alarmedNone() {
        check.says("-1: there is no such alarm or what, or it has not been looked at.");
        TideBook book = new TideBook();
        for (int k : new int[] {-1, 0, 1, 9, 10, LEAST, MOST}) {
            due("no alarm", book.alarmed(k, 0), -1);
        }
        due("ring without alarms", book.ring(), 0);
        due("alarm", book.alarm(0, 5, 0), 0);
        for (int what = -1; what < 4; what++) {
            due("not looked at", book.alarmed(0, what), -1);
        }
        due("ring", book.ring(), 16);
        for (int what : new int[] {-1, 3, 4, LEAST, MOST}) {
            due("no what", book.alarmed(0, what), -1);
            refused("no what", -1, rich -> rich.alarmed(0, what));
        }
        due("a second alarm", book.alarm(0, 5, 0), 1);
        for (int what = 0; what < 3; what++) {
            due("not looked at", book.alarmed(1, what), -1);
        }
        due("the first one was", book.alarmed(0, 0), 16);
        for (int k : new int[] {-1, 2, 9, 10, LEAST, MOST}) {
            due("no alarm", book.alarmed(k, 0), -1);
            due("no alarm", book.alarmed(k, 1), -1);
        }
        for (int k : new int[] {-1, 3, 10, LEAST, MOST}) {
            refused("no alarm", -1, rich -> rich.alarmed(k, 0));
        }
    }

    private static void told() {
        check.says("Of a column: what = 0 1 if it has a formula, else 0; 1 1 if it is NARROW, else 0; 2 how many of its "
                + "places are BLANK; 3 its f (-1 without a formula).");
        TideBook book = new TideBook();
        for (int place = 0; place < 16; place++) {
            due("blank places", book.told(11, 2), 16 - place);
            due("set", book.set(11, place, 0, 0), 1);
        }
        due("no blank place", book.told(11, 2), 0);
        due("formula 0", book.formula(11, 0, 0, 16, 0), 1);
        due("has one", book.told(11, 0), 1);
        due("its f", book.told(11, 3), 0);
        due("all blank", book.told(11, 2), 16);
        due("wide", book.told(11, 1), 0);
        due("narrow", book.width(11, true), 1);
        due("narrow", book.told(11, 1), 1);
        due("formula 26", book.formula(11, 26, 10, 10, 11), 1);
        due("its f", book.told(11, 3), 26);
        due("input", book.input(11), 1);
        due("has none", book.told(11, 0), 0);
        due("no f", book.told(11, 3), -1);
        due("narrow still", book.told(11, 1), 1);
    }

    private static void toldOfBook() {
        check.says("Of the book (column 12): 0 changes that can be taken back, 1 alarms, 2 rings.");
        TideBook book = new TideBook();
        due("ring", book.ring() + book.ring() + book.ring(), 0);
        due("changes", book.told(12, 0), 0);
        due("alarms", book.told(12, 1), 0);
        due("rings", book.told(12, 2), 3);
        due("alarm", book.alarm(0, 0, 0) + book.alarm(0, 0, 0), 1);
        due("set", book.set(0, 0, 1, 0), 1);
        due("changes", book.told(12, 0), 1);
        due("alarms", book.told(12, 1), 2);
        due("rings", book.told(12, 2), 3);
        due("back", book.back(), 0);
        due("none below 0", book.back(), -1);
        due("changes", book.told(12, 0), 0);
    }

    private static void toldNone() {
        check.says("-1: there is none such.");
        for (int what : new int[] {-1, 4, 5, LEAST, MOST}) {
            for (int column = 0; column < 12; column++) {
                int at = column;
                refused("no what", -1, book -> book.told(at, what));
            }
        }
        for (int what : new int[] {-1, 3, 4, LEAST, MOST}) {
            refused("no what of the book", -1, book -> book.told(12, what));
        }
        for (int column : new int[] {-1, 13, 16, LEAST, MOST}) {
            for (int what = 0; what < 4; what++) {
                int of = what;
                refused("no column", -1, book -> book.told(column, of));
            }
        }
    }
}
