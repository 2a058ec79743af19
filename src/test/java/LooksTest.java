/** Promises 18 to 22: reads, corrected, thermometer, point, count. */
public final class LooksTest {
    private static final Check check = new Check("LooksTest");

    public static void main(String[] args) {
        promise18Reads();
        promise19Corrected();
        promise19FloorsAndEnds();
        promise20Thermometer();
        promise20Numbers();
        promise21Point();
        promise22Count();
        check.end();
    }

    private static void promise18Reads() {
        ThawPoints x = new ThawPoints();
        check.noIndex(x, "reads(0, 0) without any", () -> x.reads(0, 0));
        x.make(7, 25, 2);
        x.make(-50, -50, 3);
        x.make(50, 50, 0);
        check.noIndex(x, "reads(3, 0)", () -> x.reads(3, 0));
        check.noIndex(x, "reads(-1, 1501)", () -> x.reads(-1, 1501));
        check.noArgument(x, "reads(0, 1501)", () -> x.reads(0, 1501));
        check.noArgument(x, "reads(0, -401)", () -> x.reads(0, -401));
        check.due("reads(0, 0)", x.reads(0, 0), 10007);
        check.due("reads(0, 39)", x.reads(0, 39), 10046);
        check.due("reads(0, 40)", x.reads(0, 40), 10048);
        check.due("reads(0, -1)", x.reads(0, -1), 10005);
        check.due("reads(0, -40)", x.reads(0, -40), 9966);
        check.due("reads(1, -400)", x.reads(1, -400), 10000 - 380 - 50);
        check.due("reads(1, 1500)", x.reads(1, 1500), 10000 + 1425 - 50);
        check.due("reads(1, 1)", x.reads(1, 1), 9950);
        check.due("reads(2, 1500)", x.reads(2, 1500), 10000 + 1575 + 50);
        check.due("reads(2, -400)", x.reads(2, -400), 10000 - 420 + 50);
        x.pass(2);
        check.due("reads(0, 0) in the year 2", x.reads(0, 0), 10037);
        check.due("reads(1, 0) in the year 2", x.reads(1, 0), 9950);
        check.due("reads is no undoable", x.count(17), 4);
    }

    private static void dueBoth(ThawPoints x, int reading, int corrected) {
        check.due("corrected(0, " + reading + ", 0)", x.corrected(0, reading, 0), corrected + 10000000);
        check.due("corrected(0, " + reading + ", 1)", x.corrected(0, reading, 1), corrected + 10000000);
    }

    private static void promise19Corrected() {
        ThawPoints x = new ThawPoints();
        check.noIndex(x, "corrected(0, 2000, 0) without any", () -> x.corrected(0, 2000, 0));
        x.make(0, 0, 0);
        check.noIndex(x, "corrected(1, 0, 0)", () -> x.corrected(1, 0, 0));
        check.noIndex(x, "corrected(-1, 0, 0)", () -> x.corrected(-1, 0, 0));
        check.noArgument(x, "corrected(0, 2000, 0)", () -> x.corrected(0, 2000, 0));
        check.noArgument(x, "corrected(0, -1000, 1)", () -> x.corrected(0, -1000, 1));
        check.noArgument(x, "corrected(0, 0, 2)", () -> x.corrected(0, 0, 2));
        check.noArgument(x, "corrected(0, 0, -1)", () -> x.corrected(0, 0, -1));
        for (int way = 0; way < 2; way++) {
            check.due("corrected without points", x.corrected(0, 5, way), -1);
        }
        x.bath(2, 500);
        x.measure(0, 2);
        check.due("corrected with one point by the tree", x.corrected(0, 500, 0), -1);
        check.due("corrected with one point by the points", x.corrected(0, 500, 1), -1);
        x.pass(1);
        x.measure(0, 0);
        dueBoth(x, 12, 0);
        dueBoth(x, 500, 500);
        dueBoth(x, 256, 250);
        dueBoth(x, 11, -2);
        dueBoth(x, -999, -1036);
        dueBoth(x, 1999, 2035);
        dueBoth(x, 501, 501);
        x.measure(0, 1);
        dueBoth(x, 500, 500);
        dueBoth(x, 501, 500);
        dueBoth(x, 499, 498);
        dueBoth(x, 756, 750);
        dueBoth(x, 1012, 1000);
        dueBoth(x, 1500, 1476);
        dueBoth(x, -12, -25);
    }

    private static void promise19FloorsAndEnds() {
        ThawPoints x = new ThawPoints();
        x.make(0, 50, 3);
        int[] degrees = {500, -300, 900, 100, 300, 700, 1300, -100};
        for (int degree : degrees) {
            x.bath(0, degree);
            x.measure(0, 0);
        }
        check.due("depth", x.thermometer(0, 4), 4);
        for (int reading = -999; reading <= 1999; reading++) {
            dueBoth(x, reading, Math.floorDiv(reading * 20, 21));
        }

        ThawPoints y = new ThawPoints();
        y.set(0, 60);
        y.make(0, 0, 0);
        y.bath(0, 1500);
        y.measure(0, 0);
        y.pass(20);
        check.due("crept in 20 years", y.thermometer(0, 2), 211);
        y.bath(0, 1288);
        y.measure(0, 0);
        dueBoth(y, -999, 1288 - 212 * 2498);
        dueBoth(y, 1999, 1288 + 212 * 500);
        dueBoth(y, 1498, 1076);
        dueBoth(y, 1501, 1712);
    }

    private static void promise20Thermometer() {
        ThawPoints x = new ThawPoints();
        check.noIndex(x, "thermometer(0, 9) without any", () -> x.thermometer(0, 9));
        x.make(0, 0, 2);
        check.noIndex(x, "thermometer(1, 0)", () -> x.thermometer(1, 0));
        check.noIndex(x, "thermometer(-1, 9)", () -> x.thermometer(-1, 9));
        check.noArgument(x, "thermometer(0, 9)", () -> x.thermometer(0, 9));
        check.noArgument(x, "thermometer(0, -1)", () -> x.thermometer(0, -1));
        int[] fresh = {2, 0, 0, 0, 0, -1, 0, 3, 0};
        for (int what = 0; what < fresh.length; what++) {
            check.due("thermometer(0, " + what + ") when new", x.thermometer(0, what), fresh[what]);
        }
        x.measure(0, 1);
        check.due("gap of one point", x.thermometer(0, 8), 0);
        check.due("depth of one point", x.thermometer(0, 4), 1);
        x.measure(0, 0);
        check.due("gap of two points", x.thermometer(0, 8), 1000);
        check.due("depth of two points", x.thermometer(0, 4), 2);
        x.measure(0, 2);
        check.due("gap of three points", x.thermometer(0, 8), 630);
        check.due("depth of three points", x.thermometer(0, 4), 3);
        x.measure(0, 3);
        check.due("depth of four points", x.thermometer(0, 4), 3);
        check.due("seal before", x.thermometer(0, 5), -1);
        x.paper(0);
        check.due("seal", x.thermometer(0, 5), 1);
        check.due("valid", x.thermometer(0, 6), 1);
        check.due("why no paper", x.thermometer(0, 7), 5);
        x.pass(3);
        int[] later = {2, 3, 36, 4, 3, 1, 0, 4, 630};
        for (int what = 0; what < later.length; what++) {
            check.due("thermometer(0, " + what + ") later", x.thermometer(0, what), later[what]);
        }
    }

    private static void promise20Numbers() {
        ThawPoints x = new ThawPoints();
        x.make(0, 50, 0);
        x.make(0, 0, 1);
        int[] degrees = {700, 100, -150, 1250};
        int[] gaps = {0, 600, 600, 600};
        for (int index = 0; index < degrees.length; index++) {
            x.bath(0, degrees[index]);
            x.measure(0, 0);
            check.due("gap of degrees, not of readings", x.thermometer(0, 8), gaps[index]);
        }
        x.forget(0, 100);
        check.due("gap after forget", x.thermometer(0, 8), 850);
        check.due("gap of another", x.thermometer(1, 8), 0);
        x.set(6, 11);
        x.bath(0, 0);
        x.measure(0, 0);
        x.measure(0, 1);
        x.paper(0);
        x.set(6, 12);
        x.pass(1);
        check.due("valid with as much crept as the setting", x.thermometer(0, 6), 1);
        x.set(6, 11);
        check.due("void with more crept", x.thermometer(0, 6), 0);
    }

    private static void promise21Point() {
        ThawPoints x = new ThawPoints();
        check.noIndex(x, "point(0, -1, 0) without any", () -> x.point(0, -1, 0));
        x.make(0, 0, 0);
        check.noIndex(x, "point(1, 0, 0)", () -> x.point(1, 0, 0));
        check.noIndex(x, "point(-1, 0, 4)", () -> x.point(-1, 0, 4));
        check.noArgument(x, "point(0, -1, 0)", () -> x.point(0, -1, 0));
        check.noArgument(x, "point(0, 0, 4)", () -> x.point(0, 0, 4));
        check.noArgument(x, "point(0, 0, -1)", () -> x.point(0, 0, -1));
        check.noArgument(x, "point(0, 1000000, 4)", () -> x.point(0, 1000000, 4));
        check.due("point without points", x.point(0, 0, 0), -1);
        check.due("point at the greatest int", x.point(0, Integer.MAX_VALUE, 3), -1);
        int[] degrees = {500, 200, 800, 100, 300, 250};
        int[] depths = {3, 2, 4, 3, 1, 2};
        int[] years = {3, 1, 5, 4, 0, 2};
        for (int degree : degrees) {
            x.bath(0, degree);
            x.measure(0, 0);
            x.pass(1);
        }
        int[] sorted = {100, 200, 250, 300, 500, 800};
        int[] crept = {12 + 6 + 4, 12, 12 + 6 + 4 + 3 + 2, 12 + 6 + 4 + 3, 0, 12 + 6};
        for (int place = 0; place < 6; place++) {
            check.due("reading at " + place, x.point(0, place, 0), 10000 + sorted[place] + crept[place]);
            check.due("degree at " + place, x.point(0, place, 1), 10000 + sorted[place]);
            check.due("year at " + place, x.point(0, place, 2), years[place]);
            check.due("depth at " + place, x.point(0, place, 3), depths[place]);
        }
        for (int what = 0; what < 4; what++) {
            check.due("point(0, 6, " + what + ")", x.point(0, 6, what), -1);
        }
    }

    private static void promise22Count() {
        ThawPoints x = new ThawPoints();
        check.noArgument(x, "count(18)", () -> x.count(18));
        check.noArgument(x, "count(-1)", () -> x.count(-1));
        Check.doWork(x, "m0,0/0;m0,0/1;m0,0/2;c0:0;c0:1;c1:0;c1:1;c2:0;p0;p1");
        x.pass(1);
        x.bath(0, 1);
        x.bath(1, 2);
        x.bath(2, 3);
        x.bath(3, 4);
        for (int setting = 0; setting < 7; setting++) {
            x.set(setting, setting + 5);
        }
        long[] counts = {1, 3, 5, 1, 2, 38, 10001, 10002, 10003, 10004, 5, 6, 7, 8, 9, 10, 11, 6};
        for (int what = 0; what < counts.length; what++) {
            check.due("count(" + what + ")", x.count(what), counts[what]);
        }
        x.breakOne(1);
        check.due("valid papers then", x.count(3), 0);
        check.due("papers so far then", x.count(4), 2);
        check.due("crept then", x.count(5), 32);
        check.due("points then", x.count(2), 3);
    }
}
