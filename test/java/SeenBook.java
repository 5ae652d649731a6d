/** A book with something of everything in it, and all that can be seen of such a one in 512 calls. */
final class SeenBook {
    private SeenBook() {
    }

    /** Inputs 0, 1, 10, 11, the formulas of 2 to 9 read all constants, three alarms, of which one was rung. */
    static TideBook rich() {
        TideBook book = new TideBook();
        for (int place = 0; place < 16; place++) {
            book.set(0, place, 3 * place - 20, place - 4);
        }
        for (int place = 0; place < 12; place++) {
            book.set(1, place, 16777217 + 2 * place, place % 3);
        }
        for (int what = 0; what < 4; what++) {
            book.special(1, 12 + what, what);
        }
        for (int k = 0; k < 8; k++) {
            book.constant(k, 16777217 + k, -k);
        }
        int[] formulas = {9, 10, 18, 14, 15, 12, 25, 17};
        for (int k = 0; k < 8; k++) {
            book.formula(2 + k, formulas[k], k % 2, 16 + k, 2);
        }
        book.width(3, true);
        book.width(8, true);
        book.width(10, true);
        for (int place = 0; place < 16; place += 5) {
            book.set(10, place, 16777217, place);
            book.set(11, place, -5, place);
        }
        book.alarm(0, 2, 16);
        book.alarm(1, 5, 10);
        book.ring();
        book.alarm(9, 11, 9);
        return book;
    }

    static String seen(TideBook book) {
        StringBuilder text = new StringBuilder();
        for (int column = 0; column < 12; column++) {
            for (int place = 0; place < 16; place++) {
                long bits = book.bits(column, place);
                boolean blank = bits == 0 && book.isBlank(column, place);
                text.append(blank ? "blank" : Long.toHexString(bits)).append(' ');
            }
            for (int what = 0; what < 4; what++) {
                text.append(book.told(column, what)).append(' ');
            }
        }
        for (int what = 0; what < 3; what++) {
            text.append(book.told(12, what)).append(' ');
            for (int alarm = 0; alarm < 4; alarm++) {
                text.append(book.alarmed(alarm, what)).append(' ');
            }
        }
        return text.append(book.ring()).append(' ').append(book.back()).toString();
    }
}
