/** Calibration of thermometers by thaws; README.md tells how it is used and built. */
public final class ThawPoints {
    public static final int NONE = -1;

    private static final int MAX_THERMOMETERS = 6;
    private static final int MAX_POINTS = 10;
    private static final int MAX_SAVED = 6;
    private static final int MAX_SIGNS = 60;
    private static final int MAX_NUMBERS = 3;

    private static final int TRIM = 50;
    private static final int LAST_BATCH = 3;
    private static final int LAST_BATH = 3;
    private static final int LAST_SETTING = 6;
    private static final int MAX_YEARS = 20;
    private static final int MIN_DEGREE = -400;
    private static final int MAX_DEGREE = 1500;
    private static final int MIN_READING = -999;
    private static final int MAX_READING = 1999;
    private static final int FIRST_SIGN = 33;
    private static final int LAST_SIGN = 126;

    private static final int ICE = 0;
    private static final int STEAM = 1000;
    private static final int OVERLAP_DEGREE = 500;
    private static final int DEGREE_STEP = 100;
    private static final int YEARS_AHEAD = 50;

    private static final int POINT_AGE_SETTING = 4;
    private static final int OVERLAP_SETTING = 5;
    private static final int CREEP_SETTING = 6;

    private static final int TOO_MANY_POINTS = 1;
    private static final int CROSSES = 2;
    private static final int NO_FIXED_POINT = 3;
    private static final int OLD_FIXED_POINT = 4;
    private static final int VALID_ALREADY = 5;
    private static final int OVERLAP_TOO_WIDE = 6;
    private static final int NO_THERMOMETER = 7;
    private static final int NO_ROOM = 8;

    private static final int DEGREE_SHIFT = 10000;
    private static final int CORRECTED_SHIFT = 10000000;

    private static final int[] FIRST_BATHS = {0, 1000, 370, -100};
    private static final int[] FIRST_SETTINGS = {12, 6, 20, 0, 2, 4, 10};
    private static final int[] HASHED_READINGS = {0, 500, 1100};
    private static final int[] SETTING_LIMITS = {60, 60, 60, 60, 20, 100, 100};

    private final State state = new State();
    private final State snapshot = new State();
    private final History history = new History();
    private final Works works = new Works();
    private boolean snapshotTaken;

    public ThawPoints() {
    }

    // ---- thermometers, baths

    public int make(int zero, int gain, int batch) throws IllegalArgumentException, IllegalStateException {
        if (!isWithin(zero, -TRIM, TRIM) || !isWithin(gain, -TRIM, TRIM) || !isWithin(batch, 0, LAST_BATCH)) {
            throw new IllegalArgumentException("zero, gain or batch is out of range");
        }
        if (!state.hasRoom()) {
            throw new IllegalStateException("there are 6 thermometers");
        }
        history.push(state);
        state.addThermometer(zero, gain, batch);
        return state.size - 1;
    }

    public int breakOne(int thermometer) throws IndexOutOfBoundsException {
        needThermometer(thermometer);
        int points = state.rows[thermometer].points.size;
        history.push(state);
        state.removeThermometer(thermometer);
        return points;
    }

    public int bath(int bath, int degree) throws IndexOutOfBoundsException, IllegalArgumentException {
        needBath(bath);
        needDegree(degree);
        int previous = state.baths[bath];
        history.push(state);
        state.baths[bath] = degree;
        return previous + DEGREE_SHIFT;
    }

    public int pass(int years) throws IllegalArgumentException {
        if (!isWithin(years, 1, MAX_YEARS)) {
            throw new IllegalArgumentException("years is out of range");
        }
        history.push(state);
        state.letPass(years);
        return state.year;
    }

    public int set(int setting, int value) throws IndexOutOfBoundsException, IllegalArgumentException {
        if (!isWithin(setting, 0, LAST_SETTING)) {
            throw new IndexOutOfBoundsException("no such setting");
        }
        if (!isWithin(value, 0, SETTING_LIMITS[setting])) {
            throw new IllegalArgumentException("value is out of range");
        }
        int previous = state.settings[setting];
        history.push(state);
        state.settings[setting] = value;
        return previous;
    }

    // ---- points, papers

    public int measure(int thermometer, int bath) throws IndexOutOfBoundsException, IllegalStateException {
        needThermometer(thermometer);
        needBath(bath);
        Thermometer row = state.rows[thermometer];
        int degree = state.baths[bath];
        if (row.reasonNotToMeasure(degree) != 0) {
            throw new IllegalStateException("it cannot be measured");
        }
        history.push(state);
        row.addPoint(degree, state.year);
        return row.points.size;
    }

    public int forget(int thermometer, int degree) throws IndexOutOfBoundsException, IllegalArgumentException {
        needThermometer(thermometer);
        needDegree(degree);
        history.push(state);
        return state.rows[thermometer].points.dropDegree(degree) ? 1 : 0;
    }

    public int paper(int thermometer) throws IndexOutOfBoundsException, IllegalStateException {
        needThermometer(thermometer);
        Thermometer row = state.rows[thermometer];
        if (state.reasonForNoPaper(row) != 0) {
            throw new IllegalStateException("it cannot get a paper");
        }
        history.push(state);
        state.giveSeal(row);
        return row.seal;
    }

    // ---- texts

    public int append(int code) throws IllegalArgumentException, IllegalStateException {
        if (!isWithin(code, FIRST_SIGN, LAST_SIGN)) {
            throw new IllegalArgumentException("code is not 33 to 126");
        }
        if (works.length >= MAX_SIGNS) {
            throw new IllegalStateException("the buffer has 60 characters");
        }
        works.addSign(code);
        return works.length;
    }

    public int clearBuffer() {
        int before = works.length;
        works.length = 0;
        return before;
    }

    public int firstError() {
        works.readWorks();
        return works.at;
    }

    public int work() throws IllegalArgumentException {
        if (!works.readWorks()) {
            throw new IllegalArgumentException("the buffer is not complete works");
        }
        history.push(state);
        works.at = 0;
        int done = 0;
        int reason = 0;
        while (done < MAX_SIGNS && reason == 0 && works.readPart()) {
            reason = tryPart();
            if (reason == 0) {
                done++;
                works.readSign(';');
            }
        }
        state.stopPart = reason == 0 ? NONE : done;
        state.stopReason = reason == 0 ? NONE : reason;
        works.length = 0;
        return done;
    }

    public int stopped(int what) throws IllegalArgumentException {
        if (!isWithin(what, 0, 1)) {
            throw new IllegalArgumentException("what is neither 0 nor 1");
        }
        return what == 0 ? state.stopPart : state.stopReason;
    }

    // ---- undo, the snapshot

    public int undo() throws IllegalStateException {
        if (history.size == 0) {
            throw new IllegalStateException("there is no saved state");
        }
        history.popInto(state);
        return history.size;
    }

    public int keep() {
        snapshot.copyFrom(state);
        snapshotTaken = true;
        return state.year;
    }

    public int restore() throws IllegalStateException {
        if (!snapshotTaken) {
            throw new IllegalStateException("there is no snapshot");
        }
        history.push(state);
        state.copyFrom(snapshot);
        return state.year;
    }

    // ---- looks; nothing is changed

    public int reads(int thermometer, int degree) throws IndexOutOfBoundsException, IllegalArgumentException {
        needThermometer(thermometer);
        needDegree(degree);
        return state.rows[thermometer].readingAt(degree) + DEGREE_SHIFT;
    }

    public int corrected(int thermometer, int reading, int way)
            throws IndexOutOfBoundsException, IllegalArgumentException {
        needThermometer(thermometer);
        if (!isWithin(reading, MIN_READING, MAX_READING)) {
            throw new IllegalArgumentException("reading is out of range");
        }
        if (!isWithin(way, 0, 1)) {
            throw new IllegalArgumentException("way is neither 0 nor 1");
        }
        Points points = state.rows[thermometer].points;
        if (points.size < 2) {
            return NONE;
        }
        return (way == 0 ? points.correctByTree(reading) : points.correctByOrder(reading)) + CORRECTED_SHIFT;
    }

    public int thermometer(int thermometer, int what) throws IndexOutOfBoundsException, IllegalArgumentException {
        needThermometer(thermometer);
        Thermometer row = state.rows[thermometer];
        switch (what) {
            case 0: return row.batch;
            case 1: return row.age;
            case 2: return row.crept;
            case 3: return row.points.size;
            case 4: return row.points.treeDepth();
            case 5: return row.seal;
            case 6: return state.isValid(row) ? 1 : 0;
            case 7: return state.reasonForNoPaper(row);
            case 8: return row.points.widestGap();
            default: throw new IllegalArgumentException("what is not 0 to 8");
        }
    }

    public int point(int thermometer, int place, int what) throws IndexOutOfBoundsException, IllegalArgumentException {
        needThermometer(thermometer);
        if (place < 0) {
            throw new IllegalArgumentException("place is below 0");
        }
        if (!isWithin(what, 0, 3)) {
            throw new IllegalArgumentException("what is not 0 to 3");
        }
        Points points = state.rows[thermometer].points;
        if (place >= points.size) {
            return NONE;
        }
        int index = points.order[place];
        switch (what) {
            case 0: return points.reading[index] + DEGREE_SHIFT;
            case 1: return points.degree[index] + DEGREE_SHIFT;
            case 2: return points.year[index];
            default: return points.depth[index];
        }
    }

    public int count(int what) throws IllegalArgumentException {
        if (!isWithin(what, 0, 17)) {
            throw new IllegalArgumentException("what is not 0 to 17");
        }
        if (what >= 10 && what <= 16) {
            return state.settings[what - 10];
        }
        if (what >= 6 && what <= 9) {
            return state.baths[what - 6] + DEGREE_SHIFT;
        }
        switch (what) {
            case 0: return state.year;
            case 1: return state.size;
            case 2: return state.allPoints();
            case 3: return state.validPapers();
            case 4: return state.seals;
            case 5: return state.allCrept();
            default: return history.size;
        }
    }

    // ---- what would be; nothing is changed

    public int whyNot(int thermometer, int bath) throws IndexOutOfBoundsException {
        needThermometer(thermometer);
        needBath(bath);
        return state.rows[thermometer].reasonNotToMeasure(state.baths[bath]);
    }

    public int overlap(int one, int other, int degree) throws IndexOutOfBoundsException, IllegalArgumentException {
        needThermometer(one);
        needThermometer(other);
        needDegree(degree);
        return state.rows[one].overlapWith(state.rows[other], degree);
    }

    public int worstDegree(int one, int other) throws IndexOutOfBoundsException {
        needThermometer(one);
        needThermometer(other);
        int worst = NONE;
        int widest = NONE;
        for (int degree = MIN_DEGREE; degree <= MAX_DEGREE; degree += DEGREE_STEP) {
            int here = state.rows[one].overlapWith(state.rows[other], degree);
            if (here > widest) {
                widest = here;
                worst = degree + DEGREE_SHIFT;
            }
        }
        return worst;
    }

    public int voidIn(int thermometer) throws IndexOutOfBoundsException {
        needThermometer(thermometer);
        return state.yearsUntilVoid(state.rows[thermometer]);
    }

    public double validShare() {
        if (state.size == 0) {
            return 1.0;
        }
        return (double) state.validPapers() / (double) state.size;
    }

    public long digest() {
        long hash = 3907;
        for (int what = 0; what <= 17; what++) {
            hash = mixed(hash, count(what));
        }
        for (int thermometer = 0; thermometer < state.size; thermometer++) {
            hash = mixedNumbers(hash, thermometer);
            hash = mixedReadings(hash, thermometer);
            hash = mixedOutlook(hash, thermometer);
        }
        hash = mixed(hash, stopped(0));
        hash = mixed(hash, stopped(1));
        hash = mixed(hash, bitsOf(validShare()));
        hash = mixed(hash, works.length);
        for (int index = 0; index < works.length; index++) {
            hash = mixed(hash, works.signs[index]);
        }
        return hash;
    }

    // ---- what the calls above share

    private static boolean isWithin(int value, int least, int greatest) {
        return value >= least && value <= greatest;
    }

    private void needThermometer(int thermometer) {
        if (!state.has(thermometer)) {
            throw new IndexOutOfBoundsException("no such thermometer");
        }
    }

    private static void needBath(int bath) {
        if (!isWithin(bath, 0, LAST_BATH)) {
            throw new IndexOutOfBoundsException("no such bath");
        }
    }

    private static void needDegree(int degree) {
        if (!isWithin(degree, MIN_DEGREE, MAX_DEGREE)) {
            throw new IllegalArgumentException("degree is out of range");
        }
    }

    /** Does the part that was read last, if its method would; returns why it would not, or 0. */
    private int tryPart() {
        int first = works.numbers[0];
        int second = works.numbers[1];
        switch (works.kind) {
            case 'm':
                return tryToMake(first, second, works.numbers[2]);
            case 'c':
                return tryToMeasure(first, second);
            case 'p':
                return tryToSeal(first);
            case 'y':
                state.letPass(first);
                return 0;
            default:
                state.changeBath(first, second);
                return 0;
        }
    }

    private int tryToMake(int zero, int gain, int batch) {
        if (!state.hasRoom()) {
            return NO_ROOM;
        }
        state.addThermometer(zero, gain, batch);
        return 0;
    }

    private int tryToMeasure(int thermometer, int bath) {
        if (!state.has(thermometer) || !isWithin(bath, 0, LAST_BATH)) {
            return NO_THERMOMETER;
        }
        Thermometer row = state.rows[thermometer];
        int degree = state.baths[bath];
        int reason = row.reasonNotToMeasure(degree);
        if (reason == 0) {
            row.addPoint(degree, state.year);
        }
        return reason;
    }

    private int tryToSeal(int thermometer) {
        if (!state.has(thermometer)) {
            return NO_THERMOMETER;
        }
        Thermometer row = state.rows[thermometer];
        int reason = state.reasonForNoPaper(row);
        if (reason == 0) {
            state.giveSeal(row);
        }
        return reason;
    }

    private static long mixed(long hash, long value) {
        return 31 * hash + value;
    }

    private long mixedNumbers(long before, int thermometer) {
        long hash = before;
        for (int what = 0; what <= 8; what++) {
            hash = mixed(hash, thermometer(thermometer, what));
        }
        int points = state.rows[thermometer].points.size;
        for (int place = 0; place < points; place++) {
            for (int what = 0; what <= 3; what++) {
                hash = mixed(hash, point(thermometer, place, what));
            }
        }
        return hash;
    }

    private long mixedReadings(long before, int thermometer) {
        long hash = mixed(before, reads(thermometer, ICE));
        hash = mixed(hash, reads(thermometer, STEAM));
        for (int reading : HASHED_READINGS) {
            hash = mixed(hash, corrected(thermometer, reading, 0));
            hash = mixed(hash, corrected(thermometer, reading, 1));
        }
        return hash;
    }

    private long mixedOutlook(long before, int thermometer) {
        long hash = before;
        for (int bath = 0; bath <= LAST_BATH; bath++) {
            hash = mixed(hash, whyNot(thermometer, bath));
        }
        for (int other = 0; other < state.size; other++) {
            hash = mixed(hash, overlap(thermometer, other, OVERLAP_DEGREE));
        }
        hash = mixed(hash, worstDegree(thermometer, 0));
        return mixed(hash, voidIn(thermometer));
    }

    // Double.doubleToLongBits is not in the library of LANGUAGE.md; for a share, 0 to 1, doubling is exact.
    private static long bitsOf(double share) {
        if (!(share > 0.0)) {
            return 0L;
        }
        double scaled = share;
        long exponent = 1023;
        for (int step = 0; step < 1022 && scaled < 1.0; step++) {
            scaled = scaled * 2.0;
            exponent--;
        }
        long fraction = (long) ((scaled - 1.0) * 4503599627370496.0);
        return (exponent << 52) + fraction;
    }

    /** All that undo and the snapshot bring back. Its rows are made once and used again. */
    private static final class State {
        int year;
        int seals;
        int size;
        int stopPart = NONE;
        int stopReason = NONE;
        final int[] baths = FIRST_BATHS.clone();
        final int[] settings = FIRST_SETTINGS.clone();
        final Thermometer[] rows = new Thermometer[MAX_THERMOMETERS];

        State() {
            for (int index = 0; index < rows.length; index++) {
                rows[index] = new Thermometer();
            }
        }

        void copyFrom(State other) {
            year = other.year;
            seals = other.seals;
            size = other.size;
            stopPart = other.stopPart;
            stopReason = other.stopReason;
            System.arraycopy(other.baths, 0, baths, 0, baths.length);
            System.arraycopy(other.settings, 0, settings, 0, settings.length);
            for (int index = 0; index < size; index++) {
                rows[index].copyFrom(other.rows[index]);
            }
        }

        boolean has(int thermometer) {
            return thermometer >= 0 && thermometer < size;
        }

        boolean hasRoom() {
            return size < rows.length;
        }

        void addThermometer(int zero, int gain, int batch) {
            if (hasRoom()) {
                rows[size].beginAnew(zero, gain, batch);
                size++;
            }
        }

        void removeThermometer(int thermometer) {
            if (!has(thermometer)) {
                return;
            }
            Thermometer broken = rows[thermometer];
            for (int index = thermometer; index < size - 1; index++) {
                rows[index] = rows[index + 1];
            }
            size--;
            rows[size] = broken; // the row stays, for the next thermometer
        }

        void changeBath(int bath, int degree) {
            if (bath >= 0 && bath < baths.length) {
                baths[bath] = degree;
            }
        }

        void letPass(int years) {
            for (int passed = 0; passed < years; passed++) {
                for (int index = 0; index < size; index++) {
                    rows[index].growOlder(creepOf(rows[index]));
                }
            }
            year += years;
        }

        private int creepOf(Thermometer row) {
            return row.batch >= 0 && row.batch <= LAST_BATCH ? settings[row.batch] : 0;
        }

        boolean isValid(Thermometer row) {
            return row.seal != NONE && row.crept - row.creptAtSeal <= settings[CREEP_SETTING];
        }

        int reasonForNoPaper(Thermometer row) {
            int ice = row.points.indexOf(ICE);
            int steam = row.points.indexOf(STEAM);
            if (ice == NONE || steam == NONE) {
                return NO_FIXED_POINT;
            }
            if (isOld(row.points.year[ice]) || isOld(row.points.year[steam])) {
                return OLD_FIXED_POINT;
            }
            if (isValid(row)) {
                return VALID_ALREADY;
            }
            for (int index = 0; index < size; index++) {
                Thermometer other = rows[index];
                if (other.batch == row.batch && isValid(other)
                        && row.overlapWith(other, OVERLAP_DEGREE) > settings[OVERLAP_SETTING]) {
                    return OVERLAP_TOO_WIDE;
                }
            }
            return 0;
        }

        private boolean isOld(int pointYear) {
            return year - pointYear > settings[POINT_AGE_SETTING];
        }

        void giveSeal(Thermometer row) {
            seals++;
            row.seal = seals;
            row.creptAtSeal = row.crept;
        }

        int yearsUntilVoid(Thermometer row) {
            if (row.seal == NONE) {
                return NONE;
            }
            int since = row.crept - row.creptAtSeal;
            for (int years = 0; years <= YEARS_AHEAD; years++) {
                if (since > settings[CREEP_SETTING]) {
                    return years;
                }
                since += Thermometer.creepOfYear(creepOf(row), row.age + years);
            }
            return NONE;
        }

        int allPoints() {
            int sum = 0;
            for (int index = 0; index < size; index++) {
                sum += rows[index].points.size;
            }
            return sum;
        }

        int validPapers() {
            int sum = 0;
            for (int index = 0; index < size; index++) {
                sum += isValid(rows[index]) ? 1 : 0;
            }
            return sum;
        }

        int allCrept() {
            int sum = 0;
            for (int index = 0; index < size; index++) {
                sum += rows[index].crept;
            }
            return sum;
        }
    }

    /** One thermometer with its points and its paper. */
    private static final class Thermometer {
        int zero;
        int gain;
        int batch;
        int age;
        int crept;
        int seal = NONE;
        int creptAtSeal;
        final Points points = new Points();

        void beginAnew(int newZero, int newGain, int newBatch) {
            zero = newZero;
            gain = newGain;
            batch = newBatch;
            age = 0;
            crept = 0;
            seal = NONE;
            creptAtSeal = 0;
            points.size = 0;
        }

        void copyFrom(Thermometer other) {
            zero = other.zero;
            gain = other.gain;
            batch = other.batch;
            age = other.age;
            crept = other.crept;
            seal = other.seal;
            creptAtSeal = other.creptAtSeal;
            points.copyFrom(other.points);
        }

        int readingAt(int degree) {
            return Math.floorDiv(degree * (1000 + gain), 1000) + zero + crept;
        }

        void growOlder(int creep) {
            crept += creepOfYear(creep, age);
            age++;
        }

        static int creepOfYear(int creep, int age) {
            int divisor = age + 1;
            return divisor > 0 ? Math.floorDiv(creep, divisor) : 0;
        }

        int reasonNotToMeasure(int degree) {
            if (points.size >= MAX_POINTS && points.indexOf(degree) == NONE) {
                return TOO_MANY_POINTS;
            }
            return points.crosses(readingAt(degree), degree) ? CROSSES : 0;
        }

        void addPoint(int degree, int year) {
            points.dropDegree(degree);
            points.addLast(readingAt(degree), degree, year);
        }

        int overlapWith(Thermometer other, int degree) {
            if (points.size < 2 || other.points.size < 2) {
                return NONE;
            }
            int mine = points.correctByTree(readingAt(degree));
            int theirs = other.points.correctByTree(other.readingAt(degree));
            return Math.abs(mine - theirs);
        }
    }

    /** The points of a thermometer: in the order in which they came, as a tree, and in the order of readings. */
    private static final class Points {
        int size;
        final int[] reading = new int[MAX_POINTS];
        final int[] degree = new int[MAX_POINTS];
        final int[] year = new int[MAX_POINTS];
        final int[] left = new int[MAX_POINTS];
        final int[] right = new int[MAX_POINTS];
        final int[] depth = new int[MAX_POINTS];
        final int[] order = new int[MAX_POINTS];

        void copyFrom(Points other) {
            size = other.size;
            System.arraycopy(other.reading, 0, reading, 0, size);
            System.arraycopy(other.degree, 0, degree, 0, size);
            System.arraycopy(other.year, 0, year, 0, size);
            System.arraycopy(other.left, 0, left, 0, size);
            System.arraycopy(other.right, 0, right, 0, size);
            System.arraycopy(other.depth, 0, depth, 0, size);
            System.arraycopy(other.order, 0, order, 0, size);
        }

        int indexOf(int wanted) {
            for (int index = 0; index < size; index++) {
                if (degree[index] == wanted) {
                    return index;
                }
            }
            return NONE;
        }

        boolean crosses(int newReading, int newDegree) {
            for (int index = 0; index < size; index++) {
                if (degree[index] != newDegree && (reading[index] == newReading
                        || (reading[index] < newReading) != (degree[index] < newDegree))) {
                    return true;
                }
            }
            return false;
        }

        void addLast(int newReading, int newDegree, int newYear) {
            if (size >= MAX_POINTS) {
                return;
            }
            reading[size] = newReading;
            degree[size] = newDegree;
            year[size] = newYear;
            hang(size);
            putInOrder(size);
            size++;
        }

        boolean dropDegree(int dropped) {
            int index = indexOf(dropped);
            if (index == NONE) {
                return false;
            }
            int others = size - 1;
            size = 0;
            for (int old = 0; old <= others; old++) {
                if (old != index) {
                    addLast(reading[old], degree[old], year[old]); // never written ahead of what is read
                }
            }
            return true;
        }

        private void hang(int fresh) {
            left[fresh] = NONE;
            right[fresh] = NONE;
            depth[fresh] = 1;
            int node = fresh > 0 ? 0 : NONE;
            for (int step = 0; step < fresh && node != NONE; step++) {
                int[] side = reading[fresh] < reading[node] ? left : right;
                int next = side[node];
                if (next == NONE) {
                    side[node] = fresh;
                    depth[fresh] = depth[node] + 1;
                }
                node = next;
            }
        }

        private void putInOrder(int fresh) {
            int place = fresh;
            while (place > 0 && reading[order[place - 1]] > reading[fresh]) {
                order[place] = order[place - 1];
                place--;
            }
            order[place] = fresh;
        }

        int treeDepth() {
            int deepest = 0;
            for (int index = 0; index < size; index++) {
                deepest = Math.max(deepest, depth[index]);
            }
            return deepest;
        }

        int widestGap() {
            int widest = 0;
            for (int place = 1; place < size; place++) {
                widest = Math.max(widest, degree[order[place]] - degree[order[place - 1]]);
            }
            return widest;
        }

        int correctByTree(int x) {
            int low = lastUpTo(x);
            int high = firstAbove(x);
            if (low == NONE && high != NONE) {
                low = high;
                high = firstAbove(reading[low]);
            } else if (high == NONE && low != NONE) {
                high = low;
                low = lastUpTo(reading[high] - 1);
            }
            return onLine(low, high, x);
        }

        private int lastUpTo(int x) {
            int found = NONE;
            int node = size > 0 ? 0 : NONE;
            for (int step = 0; step < size && node != NONE; step++) {
                if (reading[node] <= x) {
                    found = node;
                    node = right[node];
                } else {
                    node = left[node];
                }
            }
            return found;
        }

        private int firstAbove(int x) {
            int found = NONE;
            int node = size > 0 ? 0 : NONE;
            for (int step = 0; step < size && node != NONE; step++) {
                if (reading[node] > x) {
                    found = node;
                    node = left[node];
                } else {
                    node = right[node];
                }
            }
            return found;
        }

        int correctByOrder(int x) {
            if (size < 2) {
                return 0;
            }
            int place = 1;
            while (place < size - 1 && reading[order[place]] <= x) {
                place++;
            }
            return onLine(order[place - 1], order[place], x);
        }

        private int onLine(int low, int high, int x) {
            if (low == NONE || high == NONE) {
                return 0;
            }
            int span = reading[high] - reading[low];
            if (span <= 0) {
                return degree[low];
            }
            int rise = (degree[high] - degree[low]) * (x - reading[low]);
            return degree[low] + Math.floorDiv(rise, span);
        }
    }

    /** The saved states, in a ring of states that are made once. */
    private static final class History {
        int size;
        private int oldest;
        private final State[] ring = new State[MAX_SAVED];

        History() {
            for (int index = 0; index < ring.length; index++) {
                ring[index] = new State();
            }
        }

        void push(State state) {
            ring[(oldest + size) % MAX_SAVED].copyFrom(state);
            if (size < MAX_SAVED) {
                size++;
            } else {
                oldest = (oldest + 1) % MAX_SAVED;
            }
        }

        void popInto(State state) {
            if (size > 0) {
                size--;
                state.copyFrom(ring[(oldest + size) % MAX_SAVED]);
            }
        }
    }

    /** The buffer, and a reader that stops at the first sign that does not fit. */
    private static final class Works {
        int length;
        final char[] signs = new char[MAX_SIGNS];
        int at;
        int kind;
        final int[] numbers = new int[MAX_NUMBERS];
        private int numbersRead;

        void addSign(int code) {
            if (length < MAX_SIGNS) {
                signs[length] = (char) code;
                length++;
            }
        }

        /** True if the buffer is complete works; at is then its length, or else where the reading stopped. */
        boolean readWorks() {
            at = 0;
            for (int part = 0; part < MAX_SIGNS; part++) {
                if (!readPart()) {
                    return false;
                }
                if (!readSign(';')) {
                    return at == length;
                }
            }
            return false;
        }

        boolean readPart() {
            numbersRead = 0;
            kind = nextSign();
            switch (kind) {
                case 'm':
                    return readSign('m') && readNumber(-TRIM, TRIM) && readSign(',') && readNumber(-TRIM, TRIM)
                            && readSign('/') && readNumber(0, LAST_BATCH);
                case 'c':
                    return readSign('c') && readNumber(0, MAX_THERMOMETERS - 1)
                            && readSign(':') && readNumber(0, LAST_BATH);
                case 'y':
                    return readSign('y') && readNumber(1, MAX_YEARS);
                case 'p':
                    return readSign('p') && readNumber(0, MAX_THERMOMETERS - 1);
                case 'b':
                    return readSign('b') && readNumber(0, LAST_BATH)
                            && readSign('=') && readNumber(MIN_DEGREE, MAX_DEGREE);
                default:
                    return false;
            }
        }

        boolean readSign(char wanted) {
            if (at >= length || signs[at] != wanted) {
                return false;
            }
            at++;
            return true;
        }

        private int nextSign() {
            return at < length ? signs[at] : 0;
        }

        private int nextDigit() {
            int sign = nextSign();
            return sign >= '0' && sign <= '9' ? sign - '0' : NONE;
        }

        /** Reads digits as long as the number stays within its range; the next sign is then not the number's. */
        private boolean readNumber(int least, int greatest) {
            boolean below = least < 0 && readSign('-');
            int bound = below ? -least : greatest;
            int lowest = below ? 1 : Math.max(least, 0);
            int value = nextDigit();
            if (value < lowest || value > bound) {
                return false;
            }
            at++;
            while (at < length && value > 0 && nextDigit() != NONE && value * 10 + nextDigit() <= bound) {
                value = value * 10 + nextDigit();
                at++;
            }
            keepNumber(below ? -value : value);
            return true;
        }

        private void keepNumber(int value) {
            if (numbersRead < MAX_NUMBERS) {
                numbers[numbersRead] = value;
                numbersRead++;
            }
        }
    }
}
