/** The edges that the document names for what would be: the constant NONE, promises 23 to 28. */
public final class EdgesOutlookTest {
    private static final Check check = new Check("EdgesOutlookTest");

    public static void main(String[] args) {
        termNone();
        termNothingIsChanged();
        promise23Thermometer();
        promise23Bath();
        promise23Reason();
        promise24One();
        promise24Other();
        promise24Degree();
        promise24Overlap();
        promise24None();
        promise25One();
        promise25Other();
        promise25Ends();
        promise25Hundreds();
        promise25Least();
        promise25None();
        promise26Thermometer();
        promise26Now();
        promise26Years();
        promise26WithoutPaper();
        promise26Fifty();
        promise27Share();
        promise27WithoutAny();
        promise28New();
        promise28Buffer();
        promise28Full();
        promise28Share();
        check.end();
    }

    private static void termNone() {
        check.keeps(0, "NONE = -1: There is nothing to return.");
        check.due("NONE", ThawPoints.NONE, -1);
        ThawPoints x = Made.with(1);
        check.due("stopped(0)", x.stopped(0), ThawPoints.NONE);
        check.due("corrected", x.corrected(0, 0, 0), ThawPoints.NONE);
        check.due("thermometer(0, 5)", x.thermometer(0, 5), ThawPoints.NONE);
        check.due("point", x.point(0, 0, 0), ThawPoints.NONE);
        check.due("overlap", x.overlap(0, 0, 0), ThawPoints.NONE);
        check.due("worstDegree", x.worstDegree(0, 0), ThawPoints.NONE);
        check.due("voidIn", x.voidIn(0), ThawPoints.NONE);
    }

    private static void termNothingIsChanged() {
        check.keeps(0, "what would be; nothing is changed.");
        check.keeps(0, "looks; nothing is changed.");
        ThawPoints x = busy();
        lookAtAll(x);
        ThawPoints same = busy();
        check.due("digest", x.digest(), same.digest());
        for (int left = 5; left >= 0; left--) {
            check.due("undo", x.undo(), left);
            same.undo();
            check.due("digest after undo", x.digest(), same.digest());
        }
        x.restore();
        same.restore();
        check.due("digest after restore", x.digest(), same.digest());
    }

    private static ThawPoints busy() {
        ThawPoints x = Made.pointed(Made.tenDegrees());
        x.make(1, 1, 0);
        x.keep();
        Check.doWork(x, "m0,0/0;c1:0;c1:1;p1;y1;c2:2;c2:0;p2");
        Check.write(x, "y1;p0");
        return x;
    }

    private static void lookAtAll(ThawPoints x) {
        for (int one = 0; one < 3; one++) {
            for (int value = 0; value < 9; value++) {
                x.thermometer(one, value);
                x.point(one, value, value % 4);
                x.reads(one, 100 * value);
                x.corrected(one, 100 * value, value % 2);
                x.whyNot(one, value % 4);
                x.overlap(one, value % 3, 100 * value);
                x.worstDegree(one, value % 3);
            }
            x.voidIn(one);
        }
        for (int what = 0; what < 18; what++) {
            x.count(what);
        }
        x.stopped(0);
        x.firstError();
        x.validShare();
        x.digest();
    }

    private static void promise23Thermometer() {
        check.keeps(23, "thermometer: its number");
        check.keeps(23, "Throws IndexOutOfBoundsException if there is no such thermometer or bath");
        check.allowsIndex("whyNot of one", () -> Made.with(1), 0, 0, (x, number) -> x.whyNot(number, 0));
        check.allowsIndex("whyNot of six", () -> Made.with(6), 0, 5, (x, number) -> x.whyNot(number, 3));
        ThawPoints x = new ThawPoints();
        check.noIndex(x, "whyNot(0, 0) of none", () -> x.whyNot(0, 0));
    }

    private static void promise23Bath() {
        check.keeps(23, "bath: 0 to 3");
        check.allowsIndex("whyNot(0, ..)", () -> Made.with(1), 0, 3, (x, bath) -> x.whyNot(0, bath));
        check.allowsIndex("whyNot(0, ..) with ten", () -> Made.pointed(Made.tenDegrees()), 0, 3,
            (x, bath) -> x.whyNot(0, bath));
    }

    private static void promise23Reason() {
        check.keeps(23, "Tells why a thermometer cannot be measured in a bath.");
        check.keeps(23, "Returns the reason, 1 or 2; 0 if it can.");
        ThawPoints x = Made.pointed(Made.tenDegrees());
        check.due("whyNot of one of the ten", x.whyNot(0, 2), 0);
        check.due("whyNot of an eleventh", x.whyNot(0, 1), 1);
        ThawPoints y = Made.pointed(0, 100, 200, 300, 400, 500, 600, 700, 800);
        Made.creep(y, 60);
        int[] degrees = {741, 740, 739, 800, 801};
        int[] reasons = {2, 2, 0, 0, 0};
        for (int index = 0; index < degrees.length; index++) {
            y.bath(1, degrees[index]);
            check.due("whyNot with nine at " + degrees[index], y.whyNot(0, 1), reasons[index]);
        }
        long before = y.digest();
        y.whyNot(0, 1);
        check.due("whyNot changes nothing", y.digest(), before);
    }

    private static void promise24One() {
        check.keeps(24, "one: its number");
        check.keeps(24, "Throws IndexOutOfBoundsException if there is no such thermometer");
        check.allowsIndex("overlap(.., 0) of one", () -> Made.with(1), 0, 0, (x, one) -> x.overlap(one, 0, 0));
        check.allowsIndex("overlap(.., 0) of six", () -> Made.with(6), 0, 5, (x, one) -> x.overlap(one, 0, 0));
        ThawPoints x = Made.with(1);
        check.noIndex(x, "overlap(1, 0, 1501), where both are wrong", () -> x.overlap(1, 0, 1501));
    }

    private static void promise24Other() {
        check.keeps(24, "other: its number (also the same)");
        check.keeps(24, "Throws IndexOutOfBoundsException if there is no such thermometer");
        check.allowsIndex("overlap(0, ..) of one", () -> Made.with(1), 0, 0, (x, other) -> x.overlap(0, other, 0));
        check.allowsIndex("overlap(0, ..) of six", () -> Made.with(6), 0, 5, (x, other) -> x.overlap(0, other, 0));
        ThawPoints x = Made.pointed(0, 1000);
        check.noIndex(x, "overlap(0, 1, -401), where both are wrong", () -> x.overlap(0, 1, -401));
        check.due("overlap with the same", x.overlap(0, 0, 500), 0);
    }

    private static void promise24Degree() {
        check.keeps(24, "degree: -400 to 1500");
        check.keeps(24, "Throws IllegalArgumentException if degree is out of range");
        check.allowsArgument("overlap(0, 0, ..) of none", () -> Made.with(1), -400, 1500,
            (x, degree) -> x.overlap(0, 0, degree));
        check.allowsArgument("overlap(0, 0, ..) of two", () -> Made.pointed(0, 1000), -400, 1500,
            (x, degree) -> x.overlap(0, 0, degree));
    }

    /** The first crept by 60 since its points at 0 and 1000; the second stands as it was. */
    private static ThawPoints creptAndNot() {
        ThawPoints x = Made.with(1);
        x.make(0, 0, 2);
        x.set(2, 0);
        Made.fix(x, 0);
        Made.fix(x, 1);
        Made.creep(x, 60);
        return x;
    }

    private static void promise24Overlap() {
        check.keeps(24, "Returns the overlap of two thermometers.");
        check.keeps(24, "Returns the overlap;");
        ThawPoints x = creptAndNot();
        for (int degree = -400; degree <= 1500; degree += 50) {
            check.due("overlap at " + degree, x.overlap(0, 1, degree), 60);
            check.due("overlap at " + degree + ", turned", x.overlap(1, 0, degree), 60);
        }
        Made.measure(x, 0, 1000);
        check.due("overlap at 1000 when measured there", x.overlap(0, 1, 1000), 0);
        check.due("overlap at -400", x.overlap(0, 1, -400), 79);
        check.due("overlap at 1500", x.overlap(1, 0, 1500), 29);
        check.due("saved states", x.count(17), 6);
    }

    private static void promise24None() {
        check.keeps(24, "NONE if there is none.");
        ThawPoints x = Made.pointed(0, 1000);
        x.make(0, 0, 3);
        check.due("overlap with one without points", x.overlap(0, 1, 0), -1);
        x.measure(1, 0);
        check.due("overlap with one with a point", x.overlap(0, 1, 0), -1);
        check.due("overlap of one with a point", x.overlap(1, 0, 0), -1);
        check.due("overlap of one with a point and itself", x.overlap(1, 1, 0), -1);
        x.measure(1, 1);
        check.due("overlap with one with two", x.overlap(0, 1, 0), 0);
    }

    private static void promise25One() {
        check.keeps(25, "one: its number");
        check.keeps(25, "Throws IndexOutOfBoundsException if there is no such thermometer");
        check.allowsIndex("worstDegree(.., 0) of one", () -> Made.with(1), 0, 0, (x, one) -> x.worstDegree(one, 0));
        check.allowsIndex("worstDegree(.., 0) of six", () -> Made.with(6), 0, 5, (x, one) -> x.worstDegree(one, 0));
    }

    private static void promise25Other() {
        check.keeps(25, "other: its number");
        check.keeps(25, "Throws IndexOutOfBoundsException if there is no such thermometer");
        check.allowsIndex("worstDegree(0, ..) of one", () -> Made.with(1), 0, 0, (x, other) -> x.worstDegree(0, other));
        check.allowsIndex("worstDegree(0, ..) of six", () -> Made.with(6), 0, 5, (x, other) -> x.worstDegree(0, other));
    }

    private static void dueWorst(ThawPoints x, int degree, int overlap) {
        check.due("worstDegree", x.worstDegree(0, 1), 10000 + degree);
        check.due("worstDegree, turned", x.worstDegree(1, 0), 10000 + degree);
        check.due("overlap there", x.overlap(0, 1, degree), overlap);
    }

    private static void promise25Ends() {
        check.keeps(25, "Returns of the degrees -400, -300 and so on to 1500 the one with the greatest overlap,");
        ThawPoints x = creptAndNot();
        Made.measure(x, 0, 0);
        dueWorst(x, 1500, 95);
        ThawPoints y = creptAndNot();
        Made.measure(y, 0, 1000);
        dueWorst(y, -400, 79);
    }

    /** The first crept by 60 since its point at this degree: the overlap falls to both sides of its reading. */
    private static ThawPoints peak(int degree) {
        ThawPoints x = Made.pointed(degree);
        x.make(0, 0, 2);
        x.set(2, 0);
        Made.creep(x, 60);
        for (int number = 0; number < 2; number++) {
            for (int other : new int[] {-400, -300, 1400, 1500}) {
                Made.measure(x, number, other);
            }
        }
        return x;
    }

    private static void promise25Hundreds() {
        check.keeps(25, "Returns of the degrees -400, -300 and so on to 1500 the one with the greatest overlap,");
        ThawPoints x = peak(650);
        check.due("overlap at 590, the greatest", x.overlap(0, 1, 590), 60);
        check.due("overlap at 500", x.overlap(0, 1, 500), 53);
        check.due("overlap at 700", x.overlap(0, 1, 700), 51);
        dueWorst(x, 600, 59);
        dueWorst(peak(-140), -200, 60);
        dueWorst(peak(1360), 1300, 60);
    }

    private static void promise25Least() {
        check.keeps(25, "of several the least, and 10000 more;");
        dueWorst(creptAndNot(), -400, 60);
        ThawPoints x = Made.pointed(0, 1000);
        x.make(0, 0, 3);
        Made.fix(x, 1);
        dueWorst(x, -400, 0);
        check.due("worstDegree of the same", x.worstDegree(0, 0), 9600);
    }

    private static void promise25None() {
        check.keeps(25, "NONE if there is none.");
        ThawPoints x = Made.with(2);
        check.due("worstDegree without points", x.worstDegree(0, 1), -1);
        Made.fix(x, 0);
        x.measure(1, 0);
        check.due("worstDegree with one that has a point", x.worstDegree(0, 1), -1);
        check.due("worstDegree of one that has a point", x.worstDegree(1, 0), -1);
        check.due("worstDegree of it and itself", x.worstDegree(1, 1), -1);
        x.measure(1, 1);
        check.due("worstDegree with two points each", x.worstDegree(0, 1), 9600);
    }

    private static void promise26Thermometer() {
        check.keeps(26, "thermometer: its number");
        check.keeps(26, "Throws IndexOutOfBoundsException if there is no such thermometer");
        check.allowsIndex("voidIn of one", () -> Made.with(1), 0, 0, ThawPoints::voidIn);
        check.allowsIndex("voidIn of six", () -> Made.with(6), 0, 5, ThawPoints::voidIn);
        ThawPoints x = new ThawPoints();
        check.noIndex(x, "voidIn(0) of none", () -> x.voidIn(0));
    }

    private static void promise26Now() {
        check.keeps(26, "Returns behind how many years, 0 if it is void now;");
        ThawPoints x = Made.papered();
        x.set(6, 59);
        Made.creep(x, 60);
        check.due("voidIn of a void paper", x.voidIn(0), 0);
        x.set(6, 60);
        check.due("voidIn with a greater setting", x.voidIn(0), 1);
        check.due("valid then", x.thermometer(0, 6), 1);
    }

    private static void promise26Years() {
        check.keeps(26, "Tells when the paper of a thermometer is void.");
        check.keeps(26, "Returns behind how many years,");
        ThawPoints x = Made.papered();
        x.set(3, 60);
        int[] settings = {0, 59, 60, 89, 90, 100};
        int[] years = {1, 1, 2, 2, 3, 3};
        for (int index = 0; index < settings.length; index++) {
            x.set(6, settings[index]);
            check.due("voidIn with the setting " + settings[index], x.voidIn(0), years[index]);
        }
        x.set(6, 90);
        for (int left = 3; left >= 0; left--) {
            check.due("voidIn a year later", x.voidIn(0), left);
            check.due("valid", x.thermometer(0, 6), left > 0 ? 1 : 0);
            x.pass(1);
        }
        check.due("voidIn behind that", x.voidIn(0), 0);
    }

    private static void promise26WithoutPaper() {
        check.keeps(26, "NONE without a paper,");
        ThawPoints x = Made.with(1);
        x.set(3, 60);
        x.set(6, 0);
        check.due("voidIn of a new one", x.voidIn(0), -1);
        x.pass(5);
        Made.fix(x, 0);
        check.due("voidIn of one that could get a paper", x.voidIn(0), -1);
        x.paper(0);
        check.due("voidIn with a paper", x.voidIn(0), 1);
        x.undo();
        check.due("voidIn after undo", x.voidIn(0), -1);
    }

    /** The paper of one of age 9 and creep 60: from the age 30 on it creeps by 1 a year, to the age 59. */
    private static void promise26Fifty() {
        check.keeps(26, "or if it is not in 50.");
        ThawPoints x = Made.with(1);
        x.set(3, 60);
        x.pass(9);
        Made.fix(x, 0);
        x.paper(0);
        int[] settings = {90, 91, 92, 93, 100};
        int[] years = {49, 50, -1, -1, -1};
        for (int index = 0; index < settings.length; index++) {
            x.set(6, settings[index]);
            check.due("voidIn with the setting " + settings[index], x.voidIn(0), years[index]);
        }
        x.set(6, 92);
        x.pass(1);
        check.due("voidIn a year later", x.voidIn(0), 50);
        ThawPoints y = Made.papered();
        y.set(6, 0);
        check.due("voidIn of one that does not creep", y.voidIn(0), -1);
    }

    private static void promise27Share() {
        check.keeps(27, "Returns how many have a valid paper.");
        check.keeps(27, "Returns these, as a double, divided by all thermometers;");
        for (int all = 1; all <= 6; all++) {
            ThawPoints x = Made.with(all);
            for (int valid = 0; valid < all; valid++) {
                check.dueShare("validShare", x.validShare(), (double) valid / all);
                Made.fix(x, valid);
                x.paper(valid);
            }
            check.dueShare("validShare of all", x.validShare(), 1.0);
            Made.creep(x, 11);
            check.dueShare("validShare of none", x.validShare(), 0.0);
        }
    }

    private static void promise27WithoutAny() {
        check.keeps(27, "1.0 without any.");
        ThawPoints x = new ThawPoints();
        check.dueShare("validShare of a new one", x.validShare(), 1.0);
        x.make(0, 0, 0);
        check.dueShare("validShare with one", x.validShare(), 0.0);
        x.breakOne(0);
        check.dueShare("validShare without any again", x.validShare(), 1.0);
    }

    private static long hashOf(long... values) {
        long hash = 3907;
        for (long value : values) {
            hash = 31 * hash + value;
        }
        return hash;
    }

    private static void promise28New() {
        check.keeps(28, "The hash starts at 3907.");
        check.keeps(28, "Returns the hash.");
        check.keeps(28, "in order, the hash becomes 31 * hash + v, in long arithmetic with overflow.");
        check.due("digest of a new one", new ThawPoints().digest(), hashOf(0, 0, 0, 0, 0, 0, 10000, 11000, 10370, 9900, 12, 6,
            20, 0, 2, 4, 10, 0, -1, -1, 4607182418800017408L, 0));
    }

    private static void promise28Buffer() {
        check.keeps(28, "the length of the buffer and each of its character codes.");
        ThawPoints x = new ThawPoints();
        x.append(33);
        x.append(126);
        check.due("digest with two", x.digest(), hashOf(0, 0, 0, 0, 0, 0, 10000, 11000, 10370, 9900, 12, 6, 20, 0, 2, 4, 10, 0,
            -1, -1, 4607182418800017408L, 2, 33, 126));
        x.clearBuffer();
        check.due("digest of the cleared one", x.digest(), new ThawPoints().digest());
        for (int length = 1; length <= 60; length++) {
            x.append(126);
        }
        long hash = hashOf(0, 0, 0, 0, 0, 0, 10000, 11000, 10370, 9900, 12, 6, 20, 0, 2, 4, 10, 0, -1, -1,
            4607182418800017408L, 60);
        for (int length = 1; length <= 60; length++) {
            hash = 31 * hash + 126;
        }
        check.due("digest with sixty", x.digest(), hash);
    }

    /** A twin that crept, a thermometer with a point, a stop at the part 1, all values told one by one. */
    private static void promise28Full() {
        check.keeps(28, "for each thermometer its numbers 0 to 8, each of its points with 0 to 3, reads of 0 and 1000,"
            + " corrected of the readings 0, 500 and 1100, each both ways, whyNot of the baths 0 to 3, overlap with each"
            + " thermometer at 500, worstDegree with the thermometer 0, and voidIn; stopped with 0 and 1;");
        ThawPoints x = new ThawPoints();
        Check.doWork(x, "m1,0/0;c0:1;c0:0;p0;m-2,0/1;c1:2;y1");
        Check.doWork(x, "b3=-300;p5");
        check.due("digest", x.digest(), hashOf(
            1, 2, 3, 0, 1, 18, 10000, 11000, 10370, 9700, 12, 6, 20, 0, 2, 4, 10, 2,
            0, 1, 12, 2, 2, 1, 0, 0, 1000, 10001, 10000, 0, 2, 11001, 11000, 0, 1, 10013, 11013,
            9999999, 9999999, 10000499, 10000499, 10001099, 10001099, 0, 0, 0, 0, 0, -1, 9600, 0,
            1, 1, 6, 1, 1, -1, 0, 3, 0, 10368, 10370, 0, 1, 10004, 11004,
            -1, -1, -1, -1, -1, -1, 0, 0, 0, 0, -1, -1, -1, -1,
            1, 7, 0, 0));
    }

    private static void promise28Share() {
        check.keeps(28, "the bits of validShare (as Double.doubleToLongBits);");
        for (int all = 1; all <= 6; all++) {
            ThawPoints x = Made.with(all);
            ThawPoints none = Made.with(all);
            for (int valid = 0; valid < all; valid++) {
                Made.fix(x, valid);
                x.paper(valid);
                check.due("digest with the share " + valid, x.digest(), told(x));
            }
            check.due("digest with the share 0", none.digest(), told(none));
        }
    }

    private static long told(ThawPoints x) {
        long hash = 3907;
        for (int what = 0; what < 18; what++) {
            hash = 31 * hash + x.count(what);
        }
        for (int number = 0; number < x.count(1); number++) {
            hash = toldOf(hash, x, number);
        }
        hash = 31 * (31 * hash + x.stopped(0)) + x.stopped(1);
        return 31 * (31 * hash + Double.doubleToLongBits(x.validShare()));
    }

    private static long toldOf(long before, ThawPoints x, int number) {
        long hash = before;
        for (int what = 0; what < 9; what++) {
            hash = 31 * hash + x.thermometer(number, what);
        }
        for (int value = 0; value < 4 * x.thermometer(number, 3); value++) {
            hash = 31 * hash + x.point(number, value / 4, value % 4);
        }
        hash = 31 * (31 * hash + x.reads(number, 0)) + x.reads(number, 1000);
        for (int reading : new int[] {0, 500, 1100}) {
            hash = 31 * (31 * hash + x.corrected(number, reading, 0)) + x.corrected(number, reading, 1);
        }
        for (int bath = 0; bath < 4; bath++) {
            hash = 31 * hash + x.whyNot(number, bath);
        }
        for (int other = 0; other < x.count(1); other++) {
            hash = 31 * hash + x.overlap(number, other, 500);
        }
        return 31 * (31 * hash + x.worstDegree(number, 0)) + x.voidIn(number);
    }
}
