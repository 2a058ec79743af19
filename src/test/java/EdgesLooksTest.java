/** The edges that the document names for looks: promises 18 to 22. */
public final class EdgesLooksTest {
    private static final Check check = new Check("EdgesLooksTest");

    public static void main(String[] args) {
        promise18Thermometer();
        promise18Degree();
        promise18Reading();
        promise19Thermometer();
        promise19Reading();
        promise19Way();
        promise19Corrected();
        promise19FewerThanTwo();
        promise20Thermometer();
        promise20What();
        promise20Batch();
        promise20Age();
        promise20Crept();
        promise20Points();
        promise20Depth();
        promise20Seal();
        promise20Valid();
        promise20WhyNoPaper();
        promise20Gap();
        promise20GapFewerThanTwo();
        promise21Thermometer();
        promise21Place();
        promise21What();
        promise21Reading();
        promise21Degree();
        promise21Year();
        promise21Depth();
        promise21NotSoMany();
        promise22What();
        promise22Year();
        promise22Thermometers();
        promise22Points();
        promise22ValidPapers();
        promise22Papers();
        promise22Crept();
        promise22Baths();
        promise22Settings();
        promise22SavedStates();
        check.end();
    }

    private static void promise18Thermometer() {
        check.keeps(18, "thermometer: its number");
        check.keeps(18, "Throws IndexOutOfBoundsException if there is no such thermometer");
        check.allowsIndex("reads of one", () -> Made.with(1), 0, 0, (x, number) -> x.reads(number, 0));
        check.allowsIndex("reads of six", () -> Made.with(6), 0, 5, (x, number) -> x.reads(number, 0));
        ThawPoints x = new ThawPoints();
        check.noIndex(x, "reads(0, 0) of none", () -> x.reads(0, 0));
        check.noIndex(x, "reads(0, 1501) of none", () -> x.reads(0, 1501));
    }

    private static void promise18Degree() {
        check.keeps(18, "degree: -400 to 1500");
        check.keeps(18, "Throws IllegalArgumentException if degree is out of range");
        check.allowsArgument("reads(0, ..)", () -> Made.with(1), -400, 1500, (x, degree) -> x.reads(0, degree));
    }

    private static void promise18Reading() {
        check.keeps(18, "Returns what a thermometer reads.");
        check.keeps(18, "Returns the reading, and 10000 more.");
        ThawPoints x = Made.with(1);
        x.make(-50, 50, 0);
        for (int degree = -400; degree <= 1500; degree++) {
            check.due("reads(0, " + degree + ")", x.reads(0, degree), 10000 + degree);
            check.due("reads(1, " + degree + ")", x.reads(1, degree), 9950 + degree + Math.floorDiv(degree, 20));
        }
        x.pass(1);
        check.due("reads of the least when crept", x.reads(1, -400), 10000 - 420 - 50 + 12);
    }

    private static void promise19Thermometer() {
        check.keeps(19, "thermometer: its number");
        check.keeps(19, "Throws IndexOutOfBoundsException if there is no such thermometer");
        check.allowsIndex("corrected of one", () -> Made.with(1), 0, 0, (x, number) -> x.corrected(number, 0, 0));
        check.allowsIndex("corrected of six", () -> Made.with(6), 0, 5, (x, number) -> x.corrected(number, 0, 1));
        ThawPoints x = new ThawPoints();
        check.noIndex(x, "corrected of none, with all wrong", () -> x.corrected(0, 2000, 2));
    }

    private static void promise19Reading() {
        check.keeps(19, "reading: -999 to 1999");
        check.keeps(19, "Throws IllegalArgumentException if reading is out of range, or way is neither 0 nor 1");
        for (int way = 0; way < 2; way++) {
            int here = way;
            check.allowsArgument("corrected(0, .., " + here + ") of none", () -> Made.with(1), -999, 1999,
                (x, reading) -> x.corrected(0, reading, here));
            check.allowsArgument("corrected(0, .., " + here + ") of two", () -> Made.pointed(0, 1000), -999, 1999,
                (x, reading) -> x.corrected(0, reading, here));
        }
    }

    private static void promise19Way() {
        check.keeps(19, "way: 0 by the tree, 1 by going through the points");
        check.keeps(19, "Throws IllegalArgumentException if reading is out of range, or way is neither 0 nor 1");
        check.allowsArgument("corrected(0, 0, ..) of none", () -> Made.with(1), 0, 1, (x, way) -> x.corrected(0, 0, way));
        check.allowsArgument("corrected(0, 0, ..) of two", () -> Made.pointed(0, 1000), 0, 1,
            (x, way) -> x.corrected(0, 0, way));
    }

    private static void dueBoth(ThawPoints x, int reading, int answer) {
        for (int way = 0; way < 2; way++) {
            check.due("corrected(0, " + reading + ", " + way + ")", x.corrected(0, reading, way), answer);
        }
    }

    /** Two readings next to each other, as far apart in degrees as can be: the steepest line. */
    private static void promise19Corrected() {
        check.keeps(19, "Corrects a reading.");
        check.keeps(19, "Returns the corrected reading, and 10000000 more;");
        dueBoth(Made.pointed(0, 1000), -999, 10000000 - 999);
        dueBoth(Made.pointed(0, 1000), -1, 9999999);
        dueBoth(Made.pointed(0, 1000), 0, 10000000);
        dueBoth(Made.pointed(0, 1000), 1999, 10001999);
        ThawPoints x = new ThawPoints();
        x.make(0, -50, 3);
        Made.measure(x, 0, 1500);
        x.set(3, 60);
        Check.doWork(x, "y20;y20;y20;b2=1225;c0:2");
        check.due("the lower reading", x.point(0, 0, 0), 10000 + 1424);
        check.due("the upper reading", x.point(0, 1, 0), 10000 + 1425);
        dueBoth(x, -999, 10000000 + 1225 - 275 * 2423);
        dueBoth(x, 1423, 10000000 + 950);
        dueBoth(x, 1424, 10000000 + 1225);
        dueBoth(x, 1425, 10000000 + 1500);
        dueBoth(x, 1999, 10000000 + 1500 + 275 * 574);
    }

    private static void promise19FewerThanTwo() {
        check.keeps(19, "NONE with fewer than two points.");
        dueBoth(Made.with(1), 0, -1);
        dueBoth(Made.pointed(5), 5, -1);
        dueBoth(Made.pointed(5), -999, -1);
        dueBoth(Made.pointed(5, 6), 5, 10000005);
        ThawPoints x = Made.pointed(5, 6);
        x.forget(0, 6);
        dueBoth(x, 5, -1);
        x.measure(0, 2);
        dueBoth(x, 6, 10000006);
    }

    private static void promise20Thermometer() {
        check.keeps(20, "thermometer: its number");
        check.keeps(20, "Throws IndexOutOfBoundsException if there is no such thermometer");
        for (int what = 0; what < 9; what++) {
            int here = what;
            check.allowsIndex("thermometer(.., " + here + ") of one", () -> Made.with(1), 0, 0,
                (x, number) -> x.thermometer(number, here));
            check.allowsIndex("thermometer(.., " + here + ") of six", () -> Made.with(6), 0, 5,
                (x, number) -> x.thermometer(number, here));
        }
        ThawPoints x = new ThawPoints();
        check.noIndex(x, "thermometer(0, 9) of none", () -> x.thermometer(0, 9));
        check.noIndex(x, "thermometer(0, 0) of none", () -> x.thermometer(0, 0));
    }

    private static void promise20What() {
        check.keeps(20, "Returns something of a thermometer.");
        check.keeps(20, "Returns the number.");
        check.keeps(20, "Throws IllegalArgumentException if what is not 0 to 8");
        check.allowsArgument("thermometer(0, ..)", () -> Made.with(1), 0, 8, (x, what) -> x.thermometer(0, what));
    }

    private static void promise20Batch() {
        check.keeps(20, "what: 0: its batch;");
        ThawPoints x = new ThawPoints();
        for (int batch = 3; batch >= 0; batch--) {
            x.make(0, 0, batch);
            check.due("batch", x.thermometer(3 - batch, 0), batch);
        }
    }

    private static void promise20Age() {
        check.keeps(20, "1: its age;");
        ThawPoints x = new ThawPoints();
        x.pass(5);
        x.make(0, 0, 0);
        check.due("age at first", x.thermometer(0, 1), 0);
        x.pass(1);
        check.due("age in a year", x.thermometer(0, 1), 1);
        x.pass(20);
        check.due("age in 21 years", x.thermometer(0, 1), 21);
    }

    private static void promise20Crept() {
        check.keeps(20, "2: what it has crept;");
        ThawPoints x = Made.with(1);
        x.pass(20);
        check.due("crept with the setting 0", x.thermometer(0, 2), 0);
        x.set(3, 20);
        x.pass(1);
        check.due("crept with 20 divided by 21", x.thermometer(0, 2), 0);
        x.set(3, 22);
        x.pass(1);
        check.due("crept with 22 divided by 22", x.thermometer(0, 2), 1);
    }

    private static void promise20Points() {
        check.keeps(20, "3: its points;");
        ThawPoints x = Made.with(2);
        for (int number = 0; number < 10; number++) {
            check.due("points", x.thermometer(0, 3), number);
            Made.measure(x, 0, number);
        }
        check.due("points of ten", x.thermometer(0, 3), 10);
        check.due("points of the other", x.thermometer(1, 3), 0);
    }

    private static void promise20Depth() {
        check.keeps(20, "4: the depth of its tree, 0 without points;");
        check.due("depth without points", Made.with(1).thermometer(0, 4), 0);
        check.due("depth of one", Made.pointed(5).thermometer(0, 4), 1);
        check.due("depth of two", Made.pointed(5, 6).thermometer(0, 4), 2);
        check.due("depth of ten", Made.pointed(Made.tenDegrees()).thermometer(0, 4), 10);
        ThawPoints x = Made.pointed(5);
        x.forget(0, 5);
        check.due("depth without points again", x.thermometer(0, 4), 0);
    }

    private static void promise20Seal() {
        check.keeps(20, "5: the seal of its paper, NONE without one;");
        check.due("seal of a new one", Made.with(1).thermometer(0, 5), -1);
        check.due("seal of one that could get a paper", Made.pointed(0, 1000).thermometer(0, 5), -1);
        ThawPoints x = Made.papered();
        check.due("seal", x.thermometer(0, 5), 1);
        Made.creep(x, 60);
        check.due("seal of a void paper", x.thermometer(0, 5), 1);
        x.forget(0, 0);
        check.due("seal without the points", x.thermometer(0, 5), 1);
    }

    private static void promise20Valid() {
        check.keeps(20, "6: 1 if it has a valid paper, otherwise 0;");
        check.due("valid of a new one", Made.with(1).thermometer(0, 6), 0);
        ThawPoints x = Made.papered();
        check.due("valid", x.thermometer(0, 6), 1);
        Made.creep(x, 10);
        check.due("valid with as much as the setting", x.thermometer(0, 6), 1);
        x.set(6, 9);
        check.due("valid with one more", x.thermometer(0, 6), 0);
    }

    private static void promise20WhyNoPaper() {
        check.keeps(20, "7: why it cannot get a paper: 3 to 6, 0 if it can;");
        check.due("why not of a new one", Made.with(1).thermometer(0, 7), 3);
        check.due("why not of one that can", Made.pointed(0, 1000).thermometer(0, 7), 0);
        check.due("why not of one that has one", Made.papered().thermometer(0, 7), 5);
        ThawPoints x = Made.pointed(0, 1000);
        x.pass(3);
        check.due("why not of one with old points", x.thermometer(0, 7), 4);
        ThawPoints y = Made.papered();
        y.make(10, 0, 3);
        y.set(6, 60);
        Made.creep(y, 60);
        Made.fix(y, 1);
        check.due("why not of one that differs", y.thermometer(1, 7), 6);
        y.set(5, 60);
        check.due("why not with a greater setting", y.thermometer(1, 7), 0);
    }

    private static void dueGap(int gap, int... degrees) {
        check.due("gap", Made.pointed(degrees).thermometer(0, 8), gap);
    }

    private static void promise20Gap() {
        check.keeps(20, "8: the widest gap between two neighbouring points, in degrees, 0 with fewer than two");
        dueGap(1, 5, 6);
        dueGap(1900, 1500, -400);
        dueGap(1000, 1000, 0);
        dueGap(600, 1000, 0, 400);
        dueGap(600, 1000, 0, 600);
        dueGap(500, 1000, 500, 0);
        dueGap(400, 0, 900, 400, 700);
        dueGap(100, Made.tenDegrees());
        dueGap(20, 0, 1, 2, 3, 4, 5, 6, 7, 8, 28);
        dueGap(20, 0, 20, 21, 22, 23, 24, 25, 26, 27, 28);
        dueGap(20, 0, 1, 2, 3, 4, 24, 25, 26, 27, 28);
        ThawPoints x = Made.pointed(0);
        Made.creep(x, 60);
        Made.measure(x, 0, 100);
        check.due("gap in degrees, not of readings", x.thermometer(0, 8), 100);
    }

    private static void promise20GapFewerThanTwo() {
        check.keeps(20, "0 with fewer than two");
        dueGap(0);
        dueGap(0, 1500);
        dueGap(0, -400);
        ThawPoints x = Made.pointed(-400, 1500);
        x.forget(0, 1500);
        check.due("gap behind forget", x.thermometer(0, 8), 0);
    }

    private static void promise21Thermometer() {
        check.keeps(21, "thermometer: its number");
        check.keeps(21, "Throws IndexOutOfBoundsException if there is no such thermometer");
        check.allowsIndex("point of one", () -> Made.with(1), 0, 0, (x, number) -> x.point(number, 0, 0));
        check.allowsIndex("point of six", () -> Made.with(6), 0, 5, (x, number) -> x.point(number, 0, 0));
        ThawPoints x = new ThawPoints();
        check.noIndex(x, "point(0, -1, 4) of none", () -> x.point(0, -1, 4));
    }

    private static void promise21Place() {
        check.keeps(21, "place: its place in the order of readings, from 0");
        check.keeps(21, "Throws IllegalArgumentException if place is below 0, or what is not 0 to 3");
        ThawPoints x = Made.pointed(300, 100, 200);
        check.due("the least", x.point(0, 0, 1), 10100);
        check.due("the next", x.point(0, 1, 1), 10200);
        check.due("the greatest", x.point(0, 2, 1), 10300);
        check.noArgument(x, "point(0, -1, 0)", () -> x.point(0, -1, 0));
        check.noArgument(x, "point at the least int", () -> x.point(0, Integer.MIN_VALUE, 0));
        ThawPoints y = Made.with(1);
        check.noArgument(y, "point(0, -1, 0) without points", () -> y.point(0, -1, 0));
    }

    private static void promise21What() {
        check.keeps(21, "Throws IllegalArgumentException if place is below 0, or what is not 0 to 3");
        check.allowsArgument("point(0, 0, ..)", () -> Made.pointed(5), 0, 3, (x, what) -> x.point(0, 0, what));
        check.allowsArgument("point(0, 0, ..) of none", () -> Made.with(1), 0, 3, (x, what) -> x.point(0, 0, what));
        check.allowsArgument("point(0, 10, ..)", () -> Made.pointed(Made.tenDegrees()), 0, 3,
            (x, what) -> x.point(0, 10, what));
    }

    private static void promise21Reading() {
        check.keeps(21, "what: 0: its reading, and 10000 more;");
        ThawPoints x = new ThawPoints();
        x.make(-50, 50, 3);
        Made.measure(x, 0, 1500);
        Made.measure(x, 0, -400);
        check.due("the least reading", x.point(0, 0, 0), 10000 - 470);
        check.due("the greatest reading", x.point(0, 1, 0), 10000 + 1525);
    }

    private static void promise21Degree() {
        check.keeps(21, "1: its degree, and 10000 more;");
        ThawPoints x = Made.pointed(1500, -400, -1);
        check.due("the least degree", x.point(0, 0, 1), 9600);
        check.due("the degree below 0", x.point(0, 1, 1), 9999);
        check.due("the greatest degree", x.point(0, 2, 1), 11500);
    }

    private static void promise21Year() {
        check.keeps(21, "2: its year;");
        ThawPoints x = Made.pointed(5);
        check.due("the year 0", x.point(0, 0, 2), 0);
        x.pass(20);
        check.due("still the year 0", x.point(0, 0, 2), 0);
        x.measure(0, 2);
        check.due("the year 20", x.point(0, 0, 2), 20);
    }

    private static void promise21Depth() {
        check.keeps(21, "3: its depth in the tree");
        check.due("depth of the root", Made.pointed(5).point(0, 0, 3), 1);
        ThawPoints x = Made.pointed(Made.tenDegrees());
        for (int place = 0; place < 10; place++) {
            check.due("depth of the point " + place, x.point(0, place, 3), place + 1);
        }
    }

    private static void promise21NotSoMany() {
        check.keeps(21, "Returns the number; NONE if there are not so many.");
        for (int points = 0; points <= 10; points++) {
            ThawPoints x = Made.with(1);
            for (int number = 0; number < points; number++) {
                Made.measure(x, 0, 1500 - number);
            }
            for (int what = 0; what < 4; what++) {
                for (int place = 0; place < 12; place++) {
                    int got = x.point(0, place, what);
                    check.due("point(0, " + place + ", " + what + ") of " + points, got >= 0 ? 1 : got,
                        place < points ? 1 : -1);
                }
                check.due("point at the greatest int", x.point(0, Integer.MAX_VALUE, what), -1);
            }
        }
    }

    private static void promise22What() {
        check.keeps(22, "Returns a number.");
        check.keeps(22, "Returns the number.");
        check.keeps(22, "Throws IllegalArgumentException if what is not 0 to 17");
        check.allowsArgument("count", ThawPoints::new, 0, 17, ThawPoints::count);
        check.allowsArgument("count with six", () -> Made.with(6), 0, 17, ThawPoints::count);
    }

    private static void promise22Year() {
        check.keeps(22, "what: 0: the year;");
        ThawPoints x = new ThawPoints();
        check.due("the year at first", x.count(0), 0);
        x.pass(1);
        check.due("the year then", x.count(0), 1);
        x.pass(20);
        check.due("the year behind 20", x.count(0), 21);
    }

    private static void promise22Thermometers() {
        check.keeps(22, "1: thermometers;");
        for (int made = 0; made <= 6; made++) {
            check.due("thermometers", Made.with(made).count(1), made);
        }
    }

    private static void promise22Points() {
        check.keeps(22, "2: points of all;");
        ThawPoints x = Made.with(6);
        check.due("points of none", x.count(2), 0);
        for (int number = 0; number < 6; number++) {
            for (int degree : Made.tenDegrees()) {
                Made.measure(x, number, degree);
            }
            check.due("points of all", x.count(2), 10 * (number + 1));
        }
        x.breakOne(0);
        check.due("points without the first", x.count(2), 50);
        x.forget(4, 0);
        check.due("points without one", x.count(2), 49);
    }

    private static void promise22ValidPapers() {
        check.keeps(22, "3: valid papers;");
        ThawPoints x = Made.with(6);
        x.set(6, 0);
        for (int number = 0; number < 6; number++) {
            Made.fix(x, number);
            check.due("valid papers", x.count(3), number);
            x.paper(number);
        }
        check.due("valid papers of six", x.count(3), 6);
        Made.creep(x, 1);
        check.due("valid papers of none", x.count(3), 0);
        x.set(6, 1);
        check.due("valid papers with a greater setting", x.count(3), 6);
    }

    private static void promise22Papers() {
        check.keeps(22, "4: papers so far;");
        ThawPoints x = Made.papered();
        check.due("papers so far", x.count(4), 1);
        Made.creep(x, 60);
        check.due("papers so far with a void one", x.count(4), 1);
        x.paper(0);
        check.due("papers so far with a new one", x.count(4), 2);
        x.breakOne(0);
        check.due("papers so far without thermometers", x.count(4), 2);
    }

    private static void promise22Crept() {
        check.keeps(22, "5: the sum of what all have crept;");
        ThawPoints x = Made.with(6);
        check.due("crept of new ones", x.count(5), 0);
        x.set(3, 60);
        Check.doWork(x, "y20;y20;y20");
        check.due("crept of all, as much as can be", x.count(5), 6 * 261);
        x.breakOne(5);
        check.due("crept without the last", x.count(5), 5 * 261);
        for (int number = 0; number < 5; number++) {
            x.breakOne(0);
        }
        check.due("crept of none", x.count(5), 0);
    }

    private static void promise22Baths() {
        check.keeps(22, "6 to 9: the degrees of the baths 0 to 3, and 10000 more;");
        ThawPoints x = new ThawPoints();
        int[] first = {10000, 11000, 10370, 9900};
        for (int bath = 0; bath < 4; bath++) {
            check.due("degree of the bath " + bath, x.count(6 + bath), first[bath]);
            x.bath(bath, -400 + bath);
        }
        for (int bath = 0; bath < 4; bath++) {
            check.due("the least of the bath " + bath, x.count(6 + bath), 9600 + bath);
            x.bath(bath, 1500 - bath);
        }
        for (int bath = 0; bath < 4; bath++) {
            check.due("the greatest of the bath " + bath, x.count(6 + bath), 11500 - bath);
        }
    }

    private static void promise22Settings() {
        check.keeps(22, "10 to 16: the settings 0 to 6;");
        ThawPoints x = new ThawPoints();
        int[] greatest = {60, 59, 58, 57, 20, 100, 99};
        for (int setting = 0; setting < 7; setting++) {
            x.set(setting, greatest[setting]);
        }
        for (int setting = 0; setting < 7; setting++) {
            check.due("setting " + setting, x.count(10 + setting), greatest[setting]);
            x.set(setting, 0);
            check.due("setting " + setting + " at 0", x.count(10 + setting), 0);
        }
    }

    private static void promise22SavedStates() {
        check.keeps(22, "17: saved states");
        ThawPoints x = new ThawPoints();
        for (int call = 0; call < 9; call++) {
            check.due("saved states", x.count(17), Math.min(call, 6));
            x.pass(1);
        }
        x.undo();
        check.due("saved states after undo", x.count(17), 5);
    }
}
