/**
 * A book of readings: input columns, columns made of others by formulas, constants, and alarms.
 * DOC.md, beside the project, has the promises that the calls keep.
 */
public final class TideBook {
    private static final int COLUMNS = 12;
    private static final int PLACES = 16;
    private static final int CONSTANTS = 8;
    private static final int FIRST_CONSTANT = 16;
    private static final int FORMULAS = 27;
    private static final int COMPARISONS = 12;
    private static final int SPECIALS = 6;
    private static final int ALARMS = 10;
    private static final int LEAST_POWER = -1000;
    private static final int GREATEST_POWER = 900;
    private static final int NO_FORMULA = -1;
    /** An object is used for 512 calls, so none that keeps to this ever has more changes. */
    private static final int CHANGES = 512;

    private final Column[] columns = new Column[COLUMNS];
    private final Readings constants = new Readings(CONSTANTS);
    private final Reckoner reckoner = new Reckoner();
    private final Alarm[] alarms = new Alarm[ALARMS];
    private int alarmCount = 0;
    private int rings = 0;
    private Change latest = null;
    private int changes = 0;
    /**
     * The columns below this one are up to date. A formula reads lower columns only, so a change
     * leaves all columns below its own as they are.
     */
    private int fresh = COLUMNS;

    public TideBook() {
        for (int column = 0; column < COLUMNS; column++) {
            columns[column] = new Column();
        }
        for (int alarm = 0; alarm < ALARMS; alarm++) {
            alarms[alarm] = new Alarm();
        }
    }

    public int set(int column, int place, int m, int e) {
        if (!takesReadings(column) || !isPlace(place) || !isPower(e)) {
            return 0;
        }
        Column target = columns[column];
        remember(new ReadingChange(latest, column, target.readings, place));
        target.readings.put(place, Numbers.brought(m * Numbers.twoTo(e), target.narrow));
        return 1;
    }

    public int special(int column, int place, int what) {
        if (!takesReadings(column) || !isPlace(place) || !isSpecial(what)) {
            return 0;
        }
        Column target = columns[column];
        remember(new ReadingChange(latest, column, target.readings, place));
        target.readings.putSpecial(place, what, target.narrow);
        return 1;
    }

    public int constant(int k, int m, int e) {
        if (!isConstant(k) || !isPower(e) || !hasRoom()) {
            return 0;
        }
        remember(new ReadingChange(latest, 0, constants, k));
        constants.put(k, m * Numbers.twoTo(e));
        return 1;
    }

    public int constantSpecial(int k, int what) {
        if (!isConstant(k) || !isSpecial(what) || !hasRoom()) {
            return 0;
        }
        remember(new ReadingChange(latest, 0, constants, k));
        constants.putSpecial(k, what, false);
        return 1;
    }

    public int formula(int column, int f, int a, int b, int c) {
        if (!isColumn(column) || !isComparison(c) || f < 0 || f >= FORMULAS) {
            return 0;
        }
        if (a < 0 || a >= column || b < 0 || (b >= column && !isConstantSource(b)) || !hasRoom()) {
            return 0;
        }
        Column target = columns[column];
        remember(new ColumnChange(latest, column, target));
        target.f = f;
        target.a = a;
        target.b = b;
        target.c = c;
        return 1;
    }

    public int input(int column) {
        if (!isColumn(column) || !columns[column].hasFormula() || !hasRoom()) {
            return 0;
        }
        refresh(column);
        Column target = columns[column];
        remember(new ColumnChange(latest, column, target));
        target.f = NO_FORMULA;
        return 1;
    }

    public int width(int column, boolean narrow) {
        if (!isColumn(column) || columns[column].narrow == narrow || !hasRoom()) {
            return 0;
        }
        Column target = columns[column];
        remember(new ColumnChange(latest, column, target));
        target.narrow = narrow;
        if (!target.hasFormula()) {
            for (int place = 0; place < PLACES; place++) {
                target.readings.putBrought(place, target.readings, place, narrow);
            }
        }
        return 1;
    }

    public int back() {
        Change change = latest;
        if (change == null) {
            return -1;
        }
        change.takeBack();
        fresh = Math.min(fresh, change.column);
        latest = change.before;
        changes--;
        return changes;
    }

    public int alarm(int column, int c, int b) {
        if (!isColumn(column) || !isComparison(c) || !(isColumn(b) || isConstantSource(b))) {
            return -1;
        }
        if (alarmCount >= ALARMS) {
            return -1;
        }
        Alarm next = alarms[alarmCount];
        next.column = column;
        next.c = c;
        next.b = b;
        alarmCount++;
        return alarmCount - 1;
    }

    public int ring() {
        refresh(COLUMNS - 1);
        rings++;
        int rang = 0;
        for (int k = 0; k < alarmCount && k < ALARMS; k++) {
            alarms[k].look(placesWhere(alarms[k]));
            rang += Integer.bitCount(alarms[k].rang);
        }
        return rang;
    }

    public double reading(int column, int place) {
        if (!isColumn(column) || !isPlace(place)) {
            return 0;
        }
        refresh(column);
        return columns[column].readings.at(place);
    }

    public boolean isBlank(int column, int place) {
        if (!isColumn(column) || !isPlace(place)) {
            return false;
        }
        refresh(column);
        return columns[column].readings.blankAt(place);
    }

    public boolean isMinus(int column, int place) {
        if (!isColumn(column) || !isPlace(place)) {
            return false;
        }
        refresh(column);
        return Numbers.hasMinus(columns[column].readings.at(place));
    }

    public long bits(int column, int place) {
        if (!isColumn(column) || !isPlace(place)) {
            return 0;
        }
        refresh(column);
        return Bits.of(columns[column].readings.at(place), columns[column].narrow);
    }

    public int compared(int column, int c, int other) {
        if (!isColumn(column) || !isColumn(other) || !isComparison(c)) {
            return -1;
        }
        refresh(Math.max(column, other));
        Readings left = columns[column].readings;
        Readings right = columns[other].readings;
        int count = 0;
        for (int place = 0; place < PLACES; place++) {
            if (Comparison.isSo(c, left, place, right, place)) {
                count++;
            }
        }
        return count;
    }

    public int alarmed(int alarm, int what) {
        if (alarm < 0 || alarm >= alarmCount || alarm >= ALARMS || !alarms[alarm].looked) {
            return -1;
        }
        return alarms[alarm].answer(what);
    }

    public int told(int column, int what) {
        if (column == COLUMNS) {
            return toldOfBook(what);
        }
        if (!isColumn(column)) {
            return -1;
        }
        refresh(column);
        return columns[column].answer(what);
    }

    private int toldOfBook(int what) {
        switch (what) {
            case 0:
                return changes;
            case 1:
                return alarmCount;
            case 2:
                return rings;
            default:
                return -1;
        }
    }

    private static boolean isColumn(int column) {
        return column >= 0 && column < COLUMNS;
    }

    private static boolean isPlace(int place) {
        return place >= 0 && place < PLACES;
    }

    private static boolean isConstant(int k) {
        return k >= 0 && k < CONSTANTS;
    }

    private static boolean isConstantSource(int b) {
        return b >= FIRST_CONSTANT && b < FIRST_CONSTANT + CONSTANTS;
    }

    private static boolean isComparison(int c) {
        return c >= 0 && c < COMPARISONS;
    }

    private static boolean isSpecial(int what) {
        return what >= 0 && what < SPECIALS;
    }

    private static boolean isPower(int e) {
        return e >= LEAST_POWER && e <= GREATEST_POWER;
    }

    private boolean hasRoom() {
        return changes < CHANGES;
    }

    private boolean takesReadings(int column) {
        return isColumn(column) && !columns[column].hasFormula() && hasRoom();
    }

    private void remember(Change change) {
        latest = change;
        changes++;
        fresh = Math.min(fresh, change.column);
    }

    /** Brings the columns up to this one up to date, the lower ones first: the others read them. */
    private void refresh(int column) {
        for (int next = Math.max(fresh, 0); next <= column && next < COLUMNS; next++) {
            if (columns[next].hasFormula()) {
                load(columns[next]);
                reckoner.reckon(columns[next]);
            }
            fresh = next + 1;
        }
    }

    private void load(Column target) {
        Readings first = columns[target.a].readings;
        Readings second = sourceOf(target.b);
        for (int place = 0; place < PLACES; place++) {
            reckoner.x.putBrought(place, first, place, target.narrow);
            reckoner.y.putBrought(place, second, placeIn(target.b, place), target.narrow);
        }
    }

    private Readings sourceOf(int b) {
        return isConstantSource(b) ? constants : columns[b].readings;
    }

    private static int placeIn(int b, int place) {
        return isConstantSource(b) ? b - FIRST_CONSTANT : place;
    }

    /** A bit for each place where the alarm's comparison is so. */
    private int placesWhere(Alarm alarm) {
        Readings left = columns[alarm.column].readings;
        Readings right = sourceOf(alarm.b);
        int held = 0;
        for (int place = 0; place < PLACES; place++) {
            if (Comparison.isSo(alarm.c, left, place, right, placeIn(alarm.b, place))) {
                held |= 1 << place;
            }
        }
        return held;
    }

    /**
     * A row of readings. A narrow number is held as the wide one that it is, too. A BLANK place
     * holds the number 0, as that is what the calls tell of one.
     */
    private static final class Readings {
        private final double[] numbers;
        private final boolean[] blanks;

        Readings(int count) {
            numbers = new double[count];
            blanks = new boolean[count];
            for (int place = 0; place < count; place++) {
                blanks[place] = true;
            }
        }

        boolean blankAt(int place) {
            return blanks[place];
        }

        double at(int place) {
            return numbers[place];
        }

        void put(int place, double number) {
            numbers[place] = number;
            blanks[place] = false;
        }

        void clear(int place) {
            numbers[place] = 0;
            blanks[place] = true;
        }

        void putSpecial(int place, int what, boolean narrow) {
            if (what == 0) {
                clear(place);
            } else {
                put(place, Numbers.named(what, narrow));
            }
        }

        void putBrought(int place, Readings from, int fromPlace, boolean narrow) {
            numbers[place] = Numbers.brought(from.numbers[fromPlace], narrow);
            blanks[place] = from.blanks[fromPlace];
        }

        int countBlanks() {
            int count = 0;
            for (boolean blank : blanks) {
                count += blank ? 1 : 0;
            }
            return count;
        }
    }

    private static final class Column {
        final Readings readings = new Readings(PLACES);
        boolean narrow = false;
        int f = NO_FORMULA;
        int a = 0;
        int b = 0;
        int c = 0;

        boolean hasFormula() {
            return f != NO_FORMULA;
        }

        void become(Column other) {
            narrow = other.narrow;
            f = other.f;
            a = other.a;
            b = other.b;
            c = other.c;
            for (int place = 0; place < PLACES; place++) {
                readings.putBrought(place, other.readings, place, false);
            }
        }

        int answer(int what) {
            switch (what) {
                case 0:
                    return hasFormula() ? 1 : 0;
                case 1:
                    return narrow ? 1 : 0;
                case 2:
                    return readings.countBlanks();
                case 3:
                    return f;
                default:
                    return -1;
            }
        }
    }

    /** What back() needs to take a change back; the changes before it hang on it as a chain. */
    private abstract static class Change {
        final Change before;
        /** The lowest column that the change may have touched. */
        final int column;

        Change(Change before, int column) {
            this.before = before;
            this.column = column;
        }

        abstract void takeBack();
    }

    private static final class ReadingChange extends Change {
        private final Readings readings;
        private final int place;
        private final double number;
        private final boolean blank;

        ReadingChange(Change before, int column, Readings readings, int place) {
            super(before, column);
            this.readings = readings;
            this.place = place;
            this.number = readings.at(place);
            this.blank = readings.blankAt(place);
        }

        void takeBack() {
            if (blank) {
                readings.clear(place);
            } else {
                readings.put(place, number);
            }
        }
    }

    private static final class ColumnChange extends Change {
        private final Column target;
        private final Column saved = new Column();

        ColumnChange(Change before, int column, Column target) {
            super(before, column);
            this.target = target;
            saved.become(target);
        }

        void takeBack() {
            target.become(saved);
        }
    }

    private static final class Alarm {
        int column = 0;
        int c = 0;
        int b = 0;
        boolean looked = false;
        /** A bit for each place. */
        int held = 0;
        int rang = 0;

        void look(int holds) {
            rang = holds & ~held;
            held = holds;
            looked = true;
        }

        int answer(int what) {
            switch (what) {
                case 0:
                    return Integer.bitCount(held);
                case 1:
                    return Integer.bitCount(rang);
                case 2:
                    return firstRang();
                default:
                    return -1;
            }
        }

        private int firstRang() {
            for (int place = 0; place < PLACES; place++) {
                if ((rang >> place & 1) != 0) {
                    return place;
                }
            }
            return -1;
        }
    }

    private static final class Comparison {
        private static final int OPPOSITES = 6;
        private static final int UNEQUAL = 5;

        static boolean isSo(int c, Readings left, int leftPlace, Readings right, int rightPlace) {
            boolean opposite = c >= OPPOSITES;
            int plain = opposite ? c - OPPOSITES : c;
            boolean blank = left.blankAt(leftPlace) || right.blankAt(rightPlace);
            boolean so = blank ? plain == UNEQUAL : isSoOf(plain, left.at(leftPlace), right.at(rightPlace));
            return so != opposite;
        }

        private static boolean isSoOf(int plain, double x, double y) {
            switch (plain) {
                case 0:
                    return x < y;
                case 1:
                    return x <= y;
                case 2:
                    return x > y;
                case 3:
                    return x >= y;
                case 4:
                    return x == y;
                default:
                    return x != y;
            }
        }
    }

    /** Reckons a column of x and y, which have been brought to its width. */
    private static final class Reckoner {
        private static final int LAST_OF_X = 8;
        private static final int LAST_OF_BOTH = 16;
        private static final int TO_MULTIPLE = 26;

        final Readings x = new Readings(PLACES);
        final Readings y = new Readings(PLACES);

        void reckon(Column target) {
            for (int place = 0; place < PLACES; place++) {
                target.readings.clear(place);
                if (target.f <= LAST_OF_X) {
                    fromX(target, place);
                } else if (target.f <= LAST_OF_BOTH || target.f == TO_MULTIPLE) {
                    fromBoth(target, place);
                } else {
                    fromRow(target, place);
                }
            }
        }

        private void fromX(Column target, int place) {
            if (!x.blankAt(place)) {
                target.readings.put(place, Numbers.ofOne(target.f, x.at(place), target.narrow));
            }
        }

        private void fromBoth(Column target, int place) {
            if (x.blankAt(place) || y.blankAt(place)) {
                return;
            }
            double left = x.at(place);
            double right = y.at(place);
            if (!Numbers.isVoid(target.f, left, right)) {
                target.readings.put(place, Numbers.ofTwo(target.f, left, right, target.narrow));
            }
        }

        private void fromRow(Column target, int place) {
            Readings out = target.readings;
            switch (target.f) {
                case 17:
                    keep(out, place, target.c);
                    break;
                case 18:
                    out.putBrought(place, x.blankAt(place) ? y : x, place, false);
                    break;
                case 19:
                    middle(out, place);
                    break;
                case 20:
                    extreme(out, place, true);
                    break;
                case 21:
                    extreme(out, place, false);
                    break;
                case 22:
                    insert(out, place);
                    break;
                case 23:
                    countLess(out, place);
                    break;
                case 24:
                    step(out, place, target.narrow);
                    break;
                default:
                    countSo(out, place, target.c);
                    break;
            }
        }

        private void keep(Readings out, int place, int c) {
            if (!x.blankAt(place) && Comparison.isSo(c, x, place, y, place)) {
                out.put(place, x.at(place));
            }
        }

        private void middle(Readings out, int place) {
            if (place < 1 || place + 1 >= PLACES) {
                return;
            }
            if (x.blankAt(place - 1) || x.blankAt(place) || x.blankAt(place + 1)) {
                return;
            }
            double first = x.at(place - 1);
            double second = x.at(place);
            double low = Numbers.lesser(first, second);
            double high = Numbers.greater(first, second);
            out.put(place, Numbers.greater(low, Numbers.lesser(high, x.at(place + 1))));
        }

        /** The place before has the extreme of all the places up to it, as places come in order. */
        private void extreme(Readings out, int place, boolean greatest) {
            if (place > 0) {
                out.putBrought(place, out, place - 1, false);
            }
            if (x.blankAt(place)) {
                return;
            }
            double here = x.at(place);
            if (out.blankAt(place)) {
                out.put(place, here);
            } else if (greatest) {
                out.put(place, Numbers.greater(out.at(place), here));
            } else {
                out.put(place, Numbers.lesser(out.at(place), here));
            }
        }

        /** The readings of the places before stand sorted at the start of the row, blanks behind. */
        private void insert(Readings out, int place) {
            if (x.blankAt(place)) {
                return;
            }
            double here = x.at(place);
            int at = place;
            while (at > 0 && (out.blankAt(at - 1) || Numbers.isBelow(here, out.at(at - 1)))) {
                out.putBrought(at, out, at - 1, false);
                at--;
            }
            out.put(at, here);
        }

        private void countLess(Readings out, int place) {
            if (x.blankAt(place)) {
                return;
            }
            int count = 0;
            for (int other = 0; other < PLACES; other++) {
                if (!x.blankAt(other) && x.at(other) < x.at(place)) {
                    count++;
                }
            }
            out.put(place, count);
        }

        private void step(Readings out, int place, boolean narrow) {
            if (place < 1 || x.blankAt(place) || x.blankAt(place - 1)) {
                return;
            }
            double here = x.at(place);
            double last = x.at(place - 1);
            if (!Numbers.isVoid(Numbers.DIFFERENCE, here, last)) {
                out.put(place, Numbers.sum(here, -last, narrow));
            }
        }

        private void countSo(Readings out, int place, int c) {
            double count = place > 0 ? out.at(place - 1) : 0;
            out.put(place, Comparison.isSo(c, x, place, y, place) ? count + 1 : count);
        }
    }

    /** Numbers of either width, held as wide ones; what is reckoned is rounded once, to the width. */
    private static final class Numbers {
        static final int DIFFERENCE = 10;

        static double brought(double x, boolean narrow) {
            return narrow ? (float) x : x;
        }

        /** For powers -1074 .. 1023: the powers of 2 on the way are wide numbers, too: exactly. */
        static double twoTo(int power) {
            double answer = 1;
            double factor = power < 0 ? 0.5 : 2;
            int left = power < 0 ? -power : power;
            for (int bit = 0; bit < 11; bit++) {
                if ((left >> bit & 1) != 0) {
                    answer *= factor;
                }
                factor *= factor;
            }
            return answer;
        }

        static double named(int what, boolean narrow) {
            switch (what) {
                case 1:
                    return 2 * 0x1p1023;
                case 2:
                    return -2 * 0x1p1023;
                case 3:
                    return -0.0;
                case 4:
                    return narrow ? 0x1.fffffep127 : 0x1.fffffffffffffp1023;
                default:
                    return narrow ? 0x1p-149 : 0x1p-1074;
            }
        }

        static boolean isInfinite(double x) {
            return x > 0x1.fffffffffffffp1023 || x < -0x1.fffffffffffffp1023;
        }

        /** 0 and -0 are equal; only what divides by them tells them apart. */
        static boolean hasMinus(double x) {
            return x < 0 || (x == 0 && 1 / x < 0);
        }

        static double withSign(double x, boolean minus) {
            return hasMinus(x) == minus ? x : -x;
        }

        /** Less, and -0 is less than 0: so are the infinite numbers that come of dividing by them. */
        static boolean isBelow(double x, double y) {
            return x < y || (x == 0 && y == 0 && 1 / x < 1 / y);
        }

        static double lesser(double x, double y) {
            return isBelow(y, x) ? y : x;
        }

        static double greater(double x, double y) {
            return isBelow(x, y) ? y : x;
        }

        static double ofOne(int f, double x, boolean narrow) {
            switch (f) {
                case 1:
                    return withSign(x, false);
                case 2:
                    return floor(x);
                case 3:
                    return -floor(-x);
                case 4:
                    return nearest(x);
                case 5:
                    return x > 0 ? 1 : x < 0 ? -1 : x;
                case 6:
                    return quotient(x, 2, narrow);
                case 7:
                    return product(x, 2, narrow);
                case 8:
                    return -x;
                default:
                    return x;
            }
        }

        /** Whether a formula of x and y has no number to tell, so that it is BLANK. */
        static boolean isVoid(int f, double x, double y) {
            switch (f) {
                case 9:
                    return isInfinite(x) && isInfinite(y) && x != y;
                case DIFFERENCE:
                    return isInfinite(x) && isInfinite(y) && x == y;
                case 11:
                    return (x == 0 && isInfinite(y)) || (isInfinite(x) && y == 0);
                case 12:
                    return (x == 0 && y == 0) || (isInfinite(x) && isInfinite(y));
                case 13:
                    return y == 0 || isInfinite(x);
                case 26:
                    return y == 0 || isInfinite(y);
                default:
                    return false;
            }
        }

        static double ofTwo(int f, double x, double y, boolean narrow) {
            switch (f) {
                case 9:
                    return sum(x, y, narrow);
                case DIFFERENCE:
                    return sum(x, -y, narrow);
                case 11:
                    return product(x, y, narrow);
                case 12:
                    return quotient(x, y, narrow);
                case 13:
                    return remainder(x, y);
                case 14:
                    return lesser(x, y);
                case 15:
                    return greater(x, y);
                case 16:
                    return withSign(x, hasMinus(y));
                default:
                    return product(nearest(quotient(x, y, narrow)), y, narrow);
            }
        }

        static double sum(double x, double y, boolean narrow) {
            return narrow ? (float) x + (float) y : x + y;
        }

        private static double product(double x, double y, boolean narrow) {
            return narrow ? (float) x * (float) y : x * y;
        }

        private static double quotient(double x, double y, boolean narrow) {
            return narrow ? (float) x / (float) y : x / y;
        }

        /** From 2^52 on every number is a whole one; below it fits into a long. */
        private static boolean isSurelyWhole(double x) {
            return x >= 0x1p52 || x <= -0x1p52;
        }

        private static double floor(double x) {
            if (isSurelyWhole(x)) {
                return x;
            }
            double whole = (long) x;
            if (whole > x) {
                whole -= 1;
            }
            return whole == 0 ? zeroLike(x) : whole;
        }

        private static double nearest(double x) {
            if (isSurelyWhole(x)) {
                return x;
            }
            double size = x < 0 ? -x : x;
            long whole = (long) size;
            double rest = size - whole;
            if (rest > 0.5 || (rest == 0.5 && (whole & 1) != 0)) {
                whole++;
            }
            if (whole == 0) {
                return zeroLike(x);
            }
            return x < 0 ? -whole : whole;
        }

        /** 0 with the sign of x, which is not infinite. */
        private static double zeroLike(double x) {
            return x * 0;
        }

        /** Long division of whole numbers, ten digits at a time, as 53 + 10 fit into a long. */
        private static double remainder(double x, double y) {
            double size = x < 0 ? -x : x;
            double divisor = y < 0 ? -y : y;
            if (size < divisor) {
                return x;
            }
            long sizeBits = Bits.behindSign(size, false);
            long divisorBits = Bits.behindSign(divisor, false);
            long divisorDigits = Bits.wideDigits(divisorBits);
            if (divisorDigits <= 0) {
                return x;
            }
            int power = Bits.widePower(divisorBits);
            long rest = Bits.wideDigits(sizeBits) % divisorDigits;
            for (int left = Bits.widePower(sizeBits) - power; left > 0; left -= 10) {
                rest = (rest << Math.min(left, 10)) % divisorDigits;
            }
            double answer = rest * twoTo(power);
            return x < 0 ? -answer : answer;
        }
    }

    /** The bits that numbers are written with: the sign, the exponent, the digits behind the point. */
    private static final class Bits {
        private static final int WIDE_DIGITS = 52;
        private static final int NARROW_DIGITS = 23;
        private static final int WIDE_BIAS = 1023;
        private static final int NARROW_BIAS = 127;

        static long of(double x, boolean narrow) {
            long sign = narrow ? -1L << 31 : -1L << 63;
            long behind = Numbers.isInfinite(x) ? ofInfinite(narrow) : behindSign(Numbers.withSign(x, false), narrow);
            return Numbers.hasMinus(x) ? behind | sign : behind;
        }

        private static long ofInfinite(boolean narrow) {
            return narrow ? (2L * NARROW_BIAS + 1) << NARROW_DIGITS : (2L * WIDE_BIAS + 1) << WIDE_DIGITS;
        }

        /** All bits but the sign, of a number that has no - and is not infinite. */
        static long behindSign(double x, boolean narrow) {
            double leastNormal = narrow ? 0x1p-126 : 0x1p-1022;
            double point = narrow ? 0x1p23 : 0x1p52;
            if (x < leastNormal) {
                return (long) (x / leastNormal * point);
            }
            double rest = x;
            int power = 0;
            for (int k = 0; k < 32 && rest >= 0x1p32; k++) {
                rest *= 0x1p-32;
                power += 32;
            }
            for (int k = 0; k < 32 && rest < 1; k++) {
                rest *= 0x1p32;
                power -= 32;
            }
            for (int k = 0; k < 32 && rest >= 2; k++) {
                rest *= 0.5;
                power++;
            }
            long exponent = power + (narrow ? NARROW_BIAS : WIDE_BIAS);
            long behindPoint = (long) ((rest - 1) * point);
            return (exponent << (narrow ? NARROW_DIGITS : WIDE_DIGITS)) + behindPoint;
        }

        /** The whole number m of m * 2^widePower. */
        static long wideDigits(long behindSign) {
            long digits = behindSign & ((1L << WIDE_DIGITS) - 1);
            return behindSign == digits ? digits : digits + (1L << WIDE_DIGITS);
        }

        static int widePower(long behindSign) {
            int exponent = (int) (behindSign >> WIDE_DIGITS);
            return (exponent == 0 ? 1 : exponent) - WIDE_BIAS - WIDE_DIGITS;
        }
    }
}
