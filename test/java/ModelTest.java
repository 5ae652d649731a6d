import java.util.Random;

/** Long runs of calls, made by chance from fixed seeds, answered as by the Model. */
public final class ModelTest {
    private static final int RUNS = 1500;
    private static final int[] POWERS = {0, 0, 0, -1, 1, -2, 3, 24, -24, 100, 127, 128, -126, -127, -149,
        -150, -151, -175, 900, -1000, -999, 899, 901, -1001, 52, 53, -52, 500, -500, 72, 97, 104};
    private static final int[] WHOLES = {0, 1, -1, 2, -2, 3, 5, -7, 10, 16777215, 16777216, 16777217, 16777219,
        -16777217, 33554431, Integer.MAX_VALUE, Integer.MIN_VALUE, 1000003, 123456789, -987654321};

    private final Check check;
    private final Random random;
    private final TideBook book = new TideBook();
    private final Model model = new Model();
    private final boolean calm;
    private String call;

    private ModelTest(Check check, long seed) {
        this.check = check;
        this.random = new Random(seed);
        this.calm = seed % 2 == 0;
    }

    public static void main(String[] args) {
        Check check = new Check("ModelTest");
        for (int seed = 0; seed < RUNS && check.wrongs() == 0; seed++) {
            new ModelTest(check, seed).run(seed);
        }
        check.end();
    }

    private void run(int seed) {
        for (int k = 0; k < 512; k++) {
            call = "run " + seed + ", call " + k + ": ";
            if (random.nextInt(100) < (k < 100 ? 90 : 35)) {
                change();
            } else {
                look();
            }
        }
    }

    /** Mostly 0 .. below; now and then beside that, or far off. */
    private int pick(int below) {
        int chance = random.nextInt(200);
        if (chance >= 6) {
            return random.nextInt(below);
        }
        int[] odd = {-1, below, below + 1, Integer.MIN_VALUE, Integer.MAX_VALUE, random.nextInt()};
        return odd[chance];
    }

    private int whole() {
        return random.nextInt(4) == 0 ? random.nextInt() : calm ? random.nextInt(9) - 4
                : WHOLES[random.nextInt(WHOLES.length)];
    }

    private int power() {
        return calm ? random.nextInt(4) - 2 : random.nextInt(6) == 0 ? random.nextInt(1950) - 1025
                : POWERS[random.nextInt(POWERS.length)];
    }

    private int other(int columns) {
        return random.nextInt(4) == 0 ? 16 + pick(8) : pick(Math.max(columns, 1));
    }

    private void change() {
        int column = pick(12);
        int place = pick(16);
        int m = whole();
        int e = power();
        int what = pick(6);
        int k = pick(8);
        switch (random.nextInt(16)) {
            case 0: case 1: case 2: case 3: case 4: case 5:
                column = random.nextInt(3) == 0 ? column : random.nextInt(3);
                due("set(" + column + ", " + place + ", " + m + ", " + e + ")",
                        book.set(column, place, m, e), model.set(column, place, m, e));
                break;
            case 6: case 7:
                column = random.nextInt(3) == 0 ? column : random.nextInt(3);
                due("special(" + column + ", " + place + ", " + what + ")",
                        book.special(column, place, what), model.special(column, place, what));
                break;
            case 8:
                due("constant(" + k + ", " + m + ", " + e + ")", book.constant(k, m, e), model.constant(k, m, e));
                break;
            case 9:
                due("constantSpecial(" + k + ", " + what + ")",
                        book.constantSpecial(k, what), model.constantSpecial(k, what));
                break;
            case 10: case 11: case 12:
                formula(random.nextInt(10) == 0 ? column : 2 + random.nextInt(10));
                break;
            case 13:
                boolean narrow = random.nextBoolean();
                due("width(" + column + ", " + narrow + ")", book.width(column, narrow), model.width(column, narrow));
                break;
            case 14:
                due("back()", book.back(), model.back());
                break;
            default:
                if (random.nextInt(3) == 0) {
                    due("input(" + column + ")", book.input(column), model.input(column));
                }
                break;
        }
    }

    private void formula(int column) {
        int f = pick(27);
        int a = pick(Math.max(Math.min(column, 12), 1));
        int b = other(Math.min(column, 12));
        int c = pick(12);
        due("formula(" + column + ", " + f + ", " + a + ", " + b + ", " + c + ")",
                book.formula(column, f, a, b, c), model.formula(column, f, a, b, c));
    }

    private void look() {
        int column = pick(12);
        int c = pick(12);
        int other = other(12);
        switch (random.nextInt(13)) {
            case 0:
                due("alarm(" + column + ", " + c + ", " + other + ")",
                        book.alarm(column, c, other), model.alarm(column, c, other));
                break;
            case 1:
                due("ring()", book.ring(), model.ring());
                break;
            case 2:
                due("compared(" + column + ", " + c + ", " + other + ")",
                        book.compared(column, c, other), model.compared(column, c, other));
                break;
            case 3:
                int alarm = pick(10);
                int what = pick(3);
                due("alarmed(" + alarm + ", " + what + ")", book.alarmed(alarm, what), model.alarmed(alarm, what));
                break;
            case 4:
                int of = pick(13);
                int which = pick(4);
                due("told(" + of + ", " + which + ")", book.told(of, which), model.told(of, which));
                break;
            default:
                lookAt(column, pick(16));
                break;
        }
    }

    private void lookAt(int column, int place) {
        String at = "(" + column + ", " + place + ")";
        switch (random.nextInt(6)) {
            case 0:
                check.due(call + "reading" + at, book.reading(column, place), model.reading(column, place));
                break;
            case 1:
                check.due(call + "isBlank" + at, book.isBlank(column, place), model.isBlank(column, place));
                break;
            case 2:
                check.due(call + "isMinus" + at, book.isMinus(column, place), model.isMinus(column, place));
                break;
            default:
                due("bits" + at, book.bits(column, place), model.bits(column, place));
                break;
        }
    }

    private void due(String what, long got, long want) {
        check.due(call + what, got, want);
    }
}
