/** The edges that the document names for points and corrections: terms, promises 7 and 8. */
public final class EdgesPointsTest {
    private static final Check check = new Check("EdgesPointsTest");

    public static void main(String[] args) {
        termPoint();
        termSameDegree();
        termTenPoints();
        termSameReading();
        termCrossing();
        termCrossingByReadings();
        termOwnPoint();
        termFirstReason();
        termTree();
        termByReadings();
        termDropped();
        termDroppedByMeasuring();
        termDepth();
        termTwoPoints();
        termNearestPoints();
        termLowestPoints();
        termHighestPoints();
        termLine();
        termBothAgree();
        promise7Thermometer();
        promise7Bath();
        promise7Points();
        promise7Refused();
        promise7Undoable();
        promise8Thermometer();
        promise8Degree();
        promise8Dropped();
        promise8Undoable();
        check.end();
    }

    private static void duePoint(ThawPoints x, int place, int reading, int degree, int year) {
        check.due("reading of the point " + place, x.point(0, place, 0), 10000 + reading);
        check.due("degree of the point " + place, x.point(0, place, 1), 10000 + degree);
        check.due("year of the point " + place, x.point(0, place, 2), year);
    }

    private static void termPoint() {
        check.keeps(0, "it gets a point: what it reads there now, the degree of the bath, and the year of now.");
        ThawPoints x = new ThawPoints();
        x.make(-50, 50, 0);
        Made.measure(x, 0, -400);
        Made.measure(x, 0, 0);
        duePoint(x, 0, -470, -400, 0);
        duePoint(x, 1, -50, 0, 0);
        x.pass(20);
        Made.measure(x, 0, 1500);
        duePoint(x, 0, -470, -400, 0);
        duePoint(x, 1, -50, 0, 0);
        duePoint(x, 2, 1575 - 50 + 35, 1500, 20);
        x.bath(2, 7);
        x.pass(1);
        duePoint(x, 2, 1575 - 50 + 35, 1500, 20);
    }

    private static void termSameDegree() {
        check.keeps(0, "A point of the same degree that it had is dropped first.");
        ThawPoints x = Made.pointed(0, 1, -1);
        Made.creep(x, 0);
        check.due("measure again", Made.measure(x, 0, 0), 3);
        duePoint(x, 0, -1, -1, 0);
        duePoint(x, 1, 0, 0, 1);
        duePoint(x, 2, 1, 1, 0);
        x.bath(0, 1);
        check.due("measure in another bath of the same degree", x.measure(0, 0), 3);
        duePoint(x, 2, 1, 1, 1);
        check.due("the neighbouring degree is another", Made.measure(x, 0, 2), 4);
    }

    private static void termTenPoints() {
        check.keeps(0, "1: it has 10 points, and none of this degree;");
        ThawPoints x = Made.pointed(0, 100, 200, 300, 400, 500, 600, 700, 800);
        x.bath(2, 900);
        check.due("whyNot with nine", x.whyNot(0, 2), 0);
        check.due("measure with nine", x.measure(0, 2), 10);
        for (int degree : Made.tenDegrees()) {
            x.bath(2, degree);
            check.due("whyNot of one of the ten, " + degree, x.whyNot(0, 2), 0);
            check.due("measure of one of the ten, " + degree, x.measure(0, 2), 10);
        }
        for (int degree : new int[] {-400, -1, 1, 899, 901, 1500}) {
            x.bath(2, degree);
            check.due("whyNot of an eleventh, " + degree, x.whyNot(0, 2), 1);
            check.noState(x, "measure of an eleventh, " + degree, () -> x.measure(0, 2));
        }
        x.forget(0, 500);
        x.bath(2, 501);
        check.due("whyNot with nine again", x.whyNot(0, 2), 0);
        check.due("measure with nine again", x.measure(0, 2), 10);
        x.bath(2, 500);
        check.due("whyNot of the one that is dropped", x.whyNot(0, 2), 1);
    }

    private static void dueWhyNot(ThawPoints x, int degree, int reason) {
        x.bath(2, degree);
        check.due("whyNot at " + degree, x.whyNot(0, 2), reason);
        if (reason != 0) {
            check.noState(x, "measure at " + degree, () -> x.measure(0, 2));
        }
    }

    private static void termSameReading() {
        check.keeps(0, "2: one of its other points has the same reading,");
        ThawPoints x = new ThawPoints();
        x.make(0, -50, 3);
        Made.measure(x, 0, 0);
        dueWhyNot(x, -2, 0);
        dueWhyNot(x, -1, 0);
        dueWhyNot(x, 0, 0);
        dueWhyNot(x, 1, 2);
        dueWhyNot(x, 2, 0);
        Made.measure(x, 0, 2);
        dueWhyNot(x, 1, 2);
        ThawPoints y = Made.pointed(100);
        Made.creep(y, 60);
        dueWhyNot(y, 39, 0);
        dueWhyNot(y, 40, 2);
    }

    /** A point with a greater reading and a lesser degree can't come about: the glass never creeps back. */
    private static void termCrossing() {
        check.keeps(0, "or a lesser reading and a greater degree, or a greater reading and a lesser degree.");
        ThawPoints x = Made.pointed(100);
        Made.creep(x, 60);
        dueWhyNot(x, -400, 0);
        dueWhyNot(x, 39, 0);
        dueWhyNot(x, 41, 2);
        dueWhyNot(x, 99, 2);
        dueWhyNot(x, 100, 0);
        dueWhyNot(x, 101, 0);
        dueWhyNot(x, 1500, 0);
        Made.measure(x, 0, 39);
        Made.measure(x, 0, 101);
        dueWhyNot(x, 40, 2);
        dueWhyNot(x, 99, 2);
    }

    /** A reading far from its degree: the new reading and degree are compared with the reading and degree of the point. */
    private static void termCrossingByReadings() {
        check.keeps(0, "2: one of its other points has the same reading, or a lesser reading and a greater degree,"
            + " or a greater reading and a lesser degree.");
        for (int zero = -50; zero <= 50; zero += 100) {
            ThawPoints x = new ThawPoints();
            x.make(zero, 0, 3);
            Made.measure(x, 0, 100);
            dueWhyNot(x, 99, 0);
            dueWhyNot(x, 101, 0);
            dueWhyNot(x, 100 - zero, 0);
            dueWhyNot(x, 100 + zero, 0);
            Made.creep(x, 30);
            dueWhyNot(x, 69, 0);
            dueWhyNot(x, 70, 2);
            dueWhyNot(x, 71, 2);
            dueWhyNot(x, 99, 2);
            dueWhyNot(x, 100, 0);
            dueWhyNot(x, 101, 0);
            dueWhyNot(x, 70 - zero, 0);
        }
    }

    private static ThawPoints creptPair(int creep) {
        ThawPoints x = Made.pointed(100, 130);
        Made.creep(x, creep);
        return x;
    }

    private static void termOwnPoint() {
        check.keeps(0, "2: one of its other points");
        dueWhyNot(Made.pointed(100), 100, 0);
        dueWhyNot(creptPair(0), 100, 0);
        dueWhyNot(creptPair(29), 100, 0);
        dueWhyNot(creptPair(30), 100, 2);
        dueWhyNot(creptPair(31), 100, 2);
        ThawPoints x = creptPair(60);
        dueWhyNot(x, 100, 2);
        dueWhyNot(x, 130, 0);
        check.due("measure of the upper one", Made.measure(x, 0, 130), 2);
        dueWhyNot(x, 100, 0);
        check.due("measure of the lower one then", Made.measure(x, 0, 100), 2);
    }

    private static void termFirstReason() {
        check.keeps(0, "It cannot be measured for the first of these reasons that applies:");
        ThawPoints x = Made.pointed(Made.tenDegrees());
        Made.creep(x, 60);
        dueWhyNot(x, 40, 1);
        dueWhyNot(x, 899, 1);
        dueWhyNot(x, 901, 1);
        x.pass(2);
        check.due("crept", x.thermometer(0, 2), 110);
        dueWhyNot(x, 800, 2);
        dueWhyNot(x, 900, 0);
    }

    /** The points that come in this order have these depths, told in the order of readings. */
    private static void dueDepths(ThawPoints x, int deepest, int... depths) {
        check.due("points", x.thermometer(0, 3), depths.length);
        check.due("depth of the tree", x.thermometer(0, 4), deepest);
        for (int place = 0; place < depths.length; place++) {
            check.due("depth of the point " + place, x.point(0, place, 3), depths[place]);
        }
    }

    private static void termTree() {
        check.keeps(0, "The points lie in a tree, as they came: the first one is its root; a point goes to the left of"
            + " one with a greater reading, to the right of one with a lesser reading, down to a free place.");
        dueDepths(Made.pointed(5), 1, 1);
        dueDepths(Made.pointed(5, 6), 2, 1, 2);
        dueDepths(Made.pointed(5, 4), 2, 2, 1);
        dueDepths(Made.pointed(5, 4, 6), 2, 2, 1, 2);
        dueDepths(Made.pointed(5, 7, 6), 3, 1, 3, 2);
        dueDepths(Made.pointed(5, 3, 4), 3, 2, 3, 1);
        dueDepths(Made.pointed(Made.tenDegrees()), 10, 1, 2, 3, 4, 5, 6, 7, 8, 9, 10);
        dueDepths(Made.pointed(9, 8, 7, 6, 5, 4, 3, 2, 1, 0), 10, 10, 9, 8, 7, 6, 5, 4, 3, 2, 1);
        dueDepths(Made.pointed(0, 9, 1, 8, 2, 7, 3, 6, 4, 5), 10, 1, 3, 5, 7, 9, 10, 8, 6, 4, 2);
        dueDepths(Made.pointed(5, 2, 8, 1, 3, 7, 9, 0, 4, 6), 4, 4, 3, 2, 3, 4, 1, 4, 3, 2, 3);
    }

    /** Readings next to each other, all far from their degrees: what is compared is readings, or degrees, not both. */
    private static void termByReadings() {
        check.keeps(0, "a point goes to the left of one with a greater reading, to the right of one with a lesser reading,"
            + " down to a free place.");
        for (int zero = -50; zero <= 50; zero += 100) {
            ThawPoints x = new ThawPoints();
            x.make(zero, 0, 3);
            for (int degree : new int[] {0, 10, 20, -10, 5, -20, 15}) {
                Made.measure(x, 0, degree);
            }
            dueDepths(x, 4, 3, 2, 1, 3, 2, 4, 3);
            int[] sorted = {-20, -10, 0, 5, 10, 15, 20};
            for (int place = 0; place < sorted.length; place++) {
                duePoint(x, place, sorted[place] + zero, sorted[place], 0);
                dueBoth(x, sorted[place] + zero, sorted[place]);
            }
        }
    }

    private static void dueWithout(int dropped, int deepest, int... depths) {
        ThawPoints x = Made.pointed(500, 200, 800, 100, 300);
        check.due("forget " + dropped, x.forget(0, dropped), 1);
        dueDepths(x, deepest, depths);
    }

    private static void termDropped() {
        check.keeps(0, "When a point is dropped, the tree is made anew from the others,"
            + " in the order in which they came.");
        dueWithout(500, 3, 2, 1, 3, 2);
        dueWithout(200, 3, 2, 3, 1, 2);
        dueWithout(800, 3, 3, 2, 3, 1);
        dueWithout(100, 3, 2, 3, 1, 2);
        dueWithout(300, 3, 3, 2, 1, 2);
        ThawPoints x = Made.pointed(5);
        x.forget(0, 5);
        dueDepths(x, 0);
        Made.measure(x, 0, 9);
        dueDepths(x, 1, 1);
        ThawPoints y = Made.pointed(Made.tenDegrees());
        y.forget(0, 0);
        dueDepths(y, 9, 1, 2, 3, 4, 5, 6, 7, 8, 9);
        y.forget(0, 900);
        dueDepths(y, 8, 1, 2, 3, 4, 5, 6, 7, 8);
        Made.measure(y, 0, 0);
        dueDepths(y, 8, 2, 1, 2, 3, 4, 5, 6, 7, 8);
    }

    private static void termDroppedByMeasuring() {
        check.keeps(0, "A point of the same degree that it had is dropped first.");
        ThawPoints x = Made.pointed(500, 200, 800, 100, 300);
        Made.measure(x, 0, 500);
        dueDepths(x, 4, 2, 1, 3, 4, 2);
        Made.measure(x, 0, 500);
        dueDepths(x, 4, 2, 1, 3, 4, 2);
        ThawPoints y = Made.pointed(5);
        Made.measure(y, 0, 5);
        dueDepths(y, 1, 1);
        ThawPoints z = Made.pointed(Made.tenDegrees());
        Made.measure(z, 0, 0);
        dueDepths(z, 9, 2, 1, 2, 3, 4, 5, 6, 7, 8, 9);
    }

    private static void termDepth() {
        check.keeps(0, "The depth of a tree is that of its deepest point; the root has the depth 1.");
        ThawPoints x = Made.with(1);
        check.due("depth without points", x.thermometer(0, 4), 0);
        int[] deepest = {1, 2, 3, 4, 5, 6, 7, 8, 9, 10};
        for (int number = 0; number < 10; number++) {
            Made.measure(x, 0, -10 * number);
            check.due("depth of " + (number + 1), x.thermometer(0, 4), deepest[number]);
        }
        ThawPoints y = Made.pointed(4, 2, 6, 1, 3, 5, 7);
        check.due("depth of a full tree", y.thermometer(0, 4), 3);
        Made.measure(y, 0, 8);
        check.due("depth of one more", y.thermometer(0, 4), 4);
        Made.measure(y, 0, 0);
        check.due("depth of one more on the other side", y.thermometer(0, 4), 4);
    }

    private static void dueBoth(ThawPoints x, int reading, int degree) {
        for (int way = 0; way < 2; way++) {
            check.due("corrected(0, " + reading + ", " + way + ")", x.corrected(0, reading, way), 10000000 + degree);
        }
    }

    private static void termTwoPoints() {
        check.keeps(0, "A reading x is corrected, if the thermometer has two points or more:");
        ThawPoints x = Made.with(1);
        for (int way = 0; way < 2; way++) {
            check.due("corrected of none", x.corrected(0, 0, way), -1);
        }
        Made.measure(x, 0, 500);
        for (int way = 0; way < 2; way++) {
            check.due("corrected of one", x.corrected(0, 500, way), -1);
        }
        Made.measure(x, 0, 501);
        dueBoth(x, 499, 499);
        dueBoth(x, 500, 500);
        dueBoth(x, 501, 501);
        dueBoth(x, -999, -999);
        dueBoth(x, 1999, 1999);
        x.forget(0, 500);
        for (int way = 0; way < 2; way++) {
            check.due("corrected of one again", x.corrected(0, 501, way), -1);
        }
    }

    /** Points at 0, 550 and 1080 for the degrees 0, 500 and 1000; the order in which they come makes another tree. */
    private static ThawPoints bent() {
        ThawPoints x = Made.pointed(0);
        Made.creep(x, 50);
        Made.measure(x, 0, 500);
        Made.creep(x, 60);
        Made.measure(x, 0, 1000);
        return x;
    }

    private static void termNearestPoints() {
        check.keeps(0, "by the two points that are nearest to it in the order of readings, one at or below it,"
            + " the other one above it;");
        ThawPoints x = bent();
        int[] readings = {0, 1, 2, 275, 549, 550, 551, 552, 815, 1079};
        int[] degrees = {0, 0, 1, 250, 499, 500, 500, 501, 750, 999};
        for (int index = 0; index < readings.length; index++) {
            dueBoth(x, readings[index], degrees[index]);
        }
        ThawPoints y = Made.pointed(0, 1, 1000);
        y.set(3, 60);
        Made.creep(y, 60);
        Made.measure(y, 0, 1000);
        dueBoth(y, 0, 0);
        dueBoth(y, 1, 1);
        dueBoth(y, 2, 1);
        dueBoth(y, 3, 2);
        dueBoth(y, 530, 500);
        dueBoth(y, 1059, 999);
    }

    private static void termLowestPoints() {
        check.keeps(0, "if there is none at or below it, by the two lowest points,");
        ThawPoints x = bent();
        dueBoth(x, -1, -1);
        dueBoth(x, -11, -10);
        dueBoth(x, -999, -909);
        ThawPoints y = Made.pointed(1500);
        Made.creep(y, 60);
        Made.measure(y, 0, 1439);
        duePoint(y, 0, 1499, 1439, 1);
        dueBoth(y, 1499, 1439);
        dueBoth(y, 1498, 1378);
        dueBoth(y, -999, 1439 - 61 * 2498);
        Made.measure(y, 0, -400);
        dueBoth(y, -340, -400);
        dueBoth(y, -341, -401);
        dueBoth(y, -999, -1059);
    }

    private static void termHighestPoints() {
        check.keeps(0, "and if there is none above it, by the two highest ones.");
        ThawPoints x = bent();
        dueBoth(x, 1080, 1000);
        dueBoth(x, 1081, 1000);
        dueBoth(x, 1082, 1001);
        dueBoth(x, 1999, 1866);
        ThawPoints y = Made.pointed(-339);
        Made.creep(y, 60);
        Made.measure(y, 0, -400);
        duePoint(y, 0, -340, -400, 1);
        dueBoth(y, -339, -339);
        dueBoth(y, -338, -278);
        dueBoth(y, 1999, -339 + 61 * 2338);
        Made.measure(y, 0, 1500);
        dueBoth(y, 1559, 1499);
        dueBoth(y, 1560, 1500);
        dueBoth(y, 1999, 1500 + 425);
    }

    /** Of the points -469, -400 and 1787, 1500 the degrees between and beyond are rounded down, below 0 also. */
    private static void termLine() {
        check.keeps(0, "With the points r, d and s, e (r less than s) it is d, and (e less d) times (x less r),"
            + " divided by (s less r), together.");
        ThawPoints x = new ThawPoints();
        x.make(-49, 50, 3);
        Made.measure(x, 0, -400);
        x.set(3, 60);
        x.pass(20);
        x.pass(20);
        x.pass(20);
        Made.measure(x, 0, 1500);
        duePoint(x, 0, -469, -400, 0);
        duePoint(x, 1, 1575 - 49 + 261, 1500, 60);
        dueBoth(x, -999, -847);
        dueBoth(x, -470, -401);
        dueBoth(x, -469, -400);
        dueBoth(x, -468, -400);
        dueBoth(x, -467, -399);
        dueBoth(x, 0, -6);
        dueBoth(x, 1787, 1500);
        dueBoth(x, 1999, 1678);
    }

    private static int corrected(ThawPoints x, int reading) {
        int points = x.thermometer(0, 3);
        int above = 1;
        while (above < points - 1 && x.point(0, above, 0) - 10000 <= reading) {
            above++;
        }
        int r = x.point(0, above - 1, 0) - 10000;
        int d = x.point(0, above - 1, 1) - 10000;
        int s = x.point(0, above, 0) - 10000;
        int e = x.point(0, above, 1) - 10000;
        return d + Math.floorDiv((e - d) * (reading - r), s - r);
    }

    private static void dueAllReadings(ThawPoints x) {
        for (int reading = -999; reading <= 1999; reading++) {
            dueBoth(x, reading, corrected(x, reading));
        }
    }

    private static void termBothAgree() {
        check.keeps(0, "The correction is found by going down the tree, and a second time by going through the points"
            + " in order; both agree.");
        int[][] orders = {{0, 1000}, {1000, 0}, {0, 500, 1000}, {500, 0, 1000}, {1000, 500, 0}, {0, 1000, 500},
            {900, 800, 700, 600, 500, 400, 300, 200, 100, 0}, {0, 900, 100, 800, 200, 700, 300, 600, 400, 500},
            {500, 200, 800, 100, 300, 700, 900, 0, 400, 600}};
        for (int[] order : orders) {
            ThawPoints x = Made.with(1);
            x.set(3, 8);
            for (int degree : order) {
                x.pass(1);
                Made.measure(x, 0, degree);
            }
            dueAllReadings(x);
        }
        ThawPoints y = Made.pointed(Made.tenDegrees());
        dueAllReadings(y);
        y.forget(0, 0);
        y.forget(0, 500);
        y.forget(0, 900);
        dueAllReadings(y);
    }

    private static void promise7Thermometer() {
        check.keeps(7, "thermometer: its number");
        check.keeps(7, "Throws IndexOutOfBoundsException if there is no such thermometer or bath");
        check.allowsIndex("measure(.., 0) of one", () -> Made.with(1), 0, 0, (x, number) -> x.measure(number, 0));
        check.allowsIndex("measure(.., 0) of six", () -> Made.with(6), 0, 5, (x, number) -> x.measure(number, 0));
        ThawPoints x = new ThawPoints();
        check.noIndex(x, "measure(0, 0) of none", () -> x.measure(0, 0));
        check.noIndex(x, "measure(0, 4) of none", () -> x.measure(0, 4));
    }

    private static void promise7Bath() {
        check.keeps(7, "bath: 0 to 3");
        check.keeps(7, "Throws IndexOutOfBoundsException if there is no such thermometer or bath");
        check.allowsIndex("measure(0, ..)", () -> Made.with(1), 0, 3, (x, bath) -> x.measure(0, bath));
        ThawPoints x = Made.pointed(Made.tenDegrees());
        check.noIndex(x, "measure(0, 4) with ten", () -> x.measure(0, 4));
        check.noIndex(x, "measure(0, -1) with ten", () -> x.measure(0, -1));
        check.noIndex(x, "measure(1, 1) with ten", () -> x.measure(1, 1));
    }

    private static void promise7Points() {
        check.keeps(7, "Returns how many points it has then.");
        ThawPoints x = Made.with(2);
        for (int number = 0; number < 10; number++) {
            check.due("measure", Made.measure(x, 0, 1500 - number), number + 1);
        }
        check.due("measure of one of the ten", Made.measure(x, 0, 1500), 10);
        check.due("measure of the other", Made.measure(x, 1, 1500), 1);
        check.due("points of all", x.count(2), 11);
    }

    private static void promise7Refused() {
        check.keeps(7, "Throws IllegalStateException if it cannot be measured");
        ThawPoints x = Made.pointed(Made.tenDegrees());
        x.bath(2, 950);
        check.noState(x, "measure of an eleventh", () -> x.measure(0, 2));
        ThawPoints y = Made.pointed(100);
        Made.creep(y, 1);
        y.bath(2, 99);
        check.noState(y, "measure at the same reading", () -> y.measure(0, 2));
        y.bath(2, 98);
        check.due("measure next to it", y.measure(0, 2), 2);
    }

    private static void promise7Undoable() {
        check.keeps(7, "Measures a thermometer in a bath. Undoable.");
        ThawPoints x = Made.with(1);
        x.measure(0, 2);
        long before = x.digest();
        check.due("measure again", x.measure(0, 2), 1);
        check.due("saved states", x.count(17), 3);
        check.due("undo of it", x.undo(), 2);
        check.due("digest after undo", x.digest(), before);
        check.due("measure in another", x.measure(0, 1), 2);
        check.due("undo of it", x.undo(), 2);
        check.due("digest after undo", x.digest(), before);
        check.due("undo of the first", x.undo(), 1);
        check.due("points after undo", x.thermometer(0, 3), 0);
    }

    private static void promise8Thermometer() {
        check.keeps(8, "thermometer: its number");
        check.keeps(8, "Throws IndexOutOfBoundsException if there is no such thermometer");
        check.allowsIndex("forget(.., 0) of one", () -> Made.with(1), 0, 0, (x, number) -> x.forget(number, 0));
        check.allowsIndex("forget(.., 0) of six", () -> Made.with(6), 0, 5, (x, number) -> x.forget(number, 0));
        ThawPoints x = Made.with(1);
        check.noIndex(x, "forget(1, 1501), where both are wrong", () -> x.forget(1, 1501));
        check.noIndex(x, "forget(-1, -401), where both are wrong", () -> x.forget(-1, -401));
    }

    private static void promise8Degree() {
        check.keeps(8, "degree: -400 to 1500");
        check.keeps(8, "Throws IllegalArgumentException if degree is out of range");
        check.allowsArgument("forget(0, ..)", () -> Made.with(1), -400, 1500, (x, degree) -> x.forget(0, degree));
        ThawPoints x = Made.pointed(-400, 1500);
        check.due("forget of the least", x.forget(0, -400), 1);
        check.due("forget of the greatest", x.forget(0, 1500), 1);
        check.due("points then", x.thermometer(0, 3), 0);
    }

    private static void promise8Dropped() {
        check.keeps(8, "Returns 1 if there was one, otherwise 0.");
        ThawPoints x = Made.pointed(Made.tenDegrees());
        check.due("forget of a degree below", x.forget(0, 499), 0);
        check.due("forget of a degree above", x.forget(0, 501), 0);
        check.due("points then", x.thermometer(0, 3), 10);
        for (int left = 9; left >= 0; left--) {
            check.due("forget", x.forget(0, 100 * left), 1);
            check.due("forget again", x.forget(0, 100 * left), 0);
            check.due("points left", x.thermometer(0, 3), left);
        }
        check.due("forget of none", x.forget(0, 0), 0);
    }

    private static void promise8Undoable() {
        check.keeps(8, "Drops the point of a degree. Undoable.");
        ThawPoints x = Made.with(1);
        x.forget(0, 0);
        check.due("saved states, also if there was none", x.count(17), 2);
        x.measure(0, 0);
        x.forget(0, 0);
        check.due("saved states", x.count(17), 4);
        check.due("undo", x.undo(), 3);
        check.due("points after undo", x.thermometer(0, 3), 1);
        duePoint(x, 0, 0, 0, 0);
    }
}
