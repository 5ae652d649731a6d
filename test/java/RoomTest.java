import java.lang.management.ManagementFactory;

/** What calls take of the room that all calls of a run live in, in bytes. */
public final class RoomTest {
    private static final Check check = new Check("RoomTest");
    private static final com.sun.management.ThreadMXBean threads =
            (com.sun.management.ThreadMXBean) ManagementFactory.getThreadMXBean();

    public static void main(String[] args) {
        warmUp();
        long start = taken();
        for (int k = 0; k < 100; k++) {
            new TideBook();
        }
        atMost("a new object", (taken() - start) / 100, 8000);
        TideBook book = filled();
        start = taken();
        for (int k = 0; k < 100; k++) {
            book.width(3, k % 2 == 0);
        }
        atMost("a change of a column", (taken() - start) / 100, 600);
        book = filled();
        start = taken();
        for (int k = 0; k < 100; k++) {
            book.set(0, k % 16, k, 0);
        }
        atMost("a change of a reading", (taken() - start) / 100, 80);
        looking();
        check.end();
    }

    /** What looks on makes nothing, even where all columns are to be reckoned anew. */
    private static void looking() {
        TideBook book = filled();
        book.set(0, 0, 9, 0);
        long start = taken();
        for (int k = 0; k < 50; k++) {
            book.back();
            book.ring();
            book.reading(11, k % 16);
            book.bits(11, k % 16);
            book.compared(11, 0, 0);
            book.alarmed(0, 2);
            book.told(11, 2);
        }
        atMost("looking", (taken() - start) / 50, 16);
    }

    private static TideBook filled() {
        TideBook book = new TideBook();
        for (int place = 0; place < 16; place++) {
            book.set(0, place, 1000003 * place, place * 30);
            book.set(1, place, 17 * place - 40, -place);
        }
        for (int column = 2; column < 12; column++) {
            book.formula(column, column + 11, column - 2, column - 1, 0);
            book.alarm(column, 0, 16);
        }
        return book;
    }

    private static void warmUp() {
        for (int k = 0; k < 30; k++) {
            filled().ring();
        }
        taken();
        taken();
    }

    private static long taken() {
        return threads.getThreadAllocatedBytes(Thread.currentThread().getId());
    }

    private static void atMost(String what, long bytes, long most) {
        System.out.println("RoomTest: " + what + " takes " + bytes + " bytes");
        check.due(what + " takes at most " + most + " bytes", bytes <= most, true);
    }
}
