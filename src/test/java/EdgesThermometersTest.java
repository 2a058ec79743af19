/** The edges that the document names for thermometers, baths and settings: terms, promises 1 to 6. */
public final class EdgesThermometersTest {
    private static final Check check = new Check("EdgesThermometersTest");

    public static void main(String[] args) {
        termSixAtMost();
        termNewThermometer();
        termRanges();
        termReads();
        termRoundedDown();
        termCreep();
        termCreepByBatch();
        termCreepByYear();
        termBaths();
        termSettings();
        promise1NewObject();
        promise2Zero();
        promise2Gain();
        promise2Batch();
        promise2OutOfRange();
        promise2Six();
        promise2Undoable();
        promise3Number();
        promise3Behind();
        promise3Points();
        promise4Bath();
        promise4Degree();
        promise4Previous();
        promise5Years();
        promise5OneCall();
        promise5Year();
        promise6Setting();
        promise6Value();
        promise6Previous();
        check.end();
    }

    private static void termSixAtMost() {
        check.keeps(0, "There are at most 6 thermometers, numbered from 0.");
        ThawPoints x = new ThawPoints();
        check.noIndex(x, "thermometer(0, 0) of none", () -> x.thermometer(0, 0));
        for (int number = 0; number < 6; number++) {
            check.due("make", x.make(number, 0, 3), number);
            check.due("count(1)", x.count(1), number + 1);
        }
        for (int number = 0; number < 6; number++) {
            check.due("reads(" + number + ", 0)", x.reads(number, 0), 10000 + number);
        }
        check.noIndex(x, "reads(-1, 0) of six", () -> x.reads(-1, 0));
        check.noIndex(x, "reads(6, 0) of six", () -> x.reads(6, 0));
        check.noState(x, "make a seventh", () -> x.make(0, 0, 3));
        x.breakOne(2);
        check.due("make when there are 5 again", x.make(9, 0, 3), 5);
        check.noState(x, "make a seventh again", () -> x.make(0, 0, 3));
    }

    private static void termNewThermometer() {
        check.keeps(0, "an age in years, 0 at first; what it has crept, 0 at first; and points.");
        ThawPoints x = new ThawPoints();
        Check.doWork(x, "y7;m1,1/0;c0:0;c0:1;p0;y1");
        x.breakOne(0);
        int[] fresh = {1, 0, 0, 0, 0, -1, 0, 3, 0};
        for (int number = 0; number < 2; number++) {
            x.make(0, 0, 1);
            for (int what = 0; what < fresh.length; what++) {
                check.due("thermometer(" + number + ", " + what + ")", x.thermometer(number, what), fresh[what]);
            }
            check.due("voidIn", x.voidIn(number), -1);
            check.due("reads", x.reads(number, 0), 10000);
        }
    }

    private static void termRanges() {
        check.keeps(0, "A thermometer has a zero, -50 to 50, a gain, -50 to 50, and a batch, 0 to 3;");
        for (int sign = -1; sign <= 1; sign += 2) {
            ThawPoints x = new ThawPoints();
            check.due("make at an end", x.make(50 * sign, 50 * sign, sign < 0 ? 0 : 3), 0);
            check.due("its zero", x.reads(0, 0), 10000 + 50 * sign);
            check.due("its gain", x.reads(0, 1000), 11000 + 100 * sign);
            check.due("its batch", x.thermometer(0, 0), sign < 0 ? 0 : 3);
            int beyond = 51 * sign;
            check.noArgument(x, "make beyond the zero", () -> x.make(beyond, 0, 0));
            check.noArgument(x, "make beyond the gain", () -> x.make(0, beyond, 0));
            check.noArgument(x, "make beyond the batch", () -> x.make(0, 0, beyond < 0 ? -1 : 4));
        }
    }

    private static void termReads() {
        check.keeps(0, "At a degree d it reads d, times (1000 and the gain), divided by 1000; and its zero,"
            + " and what it has crept, together.");
        ThawPoints x = new ThawPoints();
        x.make(-50, -50, 3);
        x.make(50, 50, 0);
        x.make(-50, 50, 0);
        check.due("the least zero and gain at -400", x.reads(0, -400), 10000 - 380 - 50);
        check.due("the least zero and gain at 1500", x.reads(0, 1500), 10000 + 1425 - 50);
        check.due("the greatest zero and gain at -400", x.reads(1, -400), 10000 - 420 + 50);
        check.due("the greatest zero and gain at 1500", x.reads(1, 1500), 10000 + 1575 + 50);
        check.due("the least reading of a new one", x.reads(2, -400), 10000 - 420 - 50);
        x.set(0, 60);
        Check.doWork(x, "y20;y20;y20");
        check.due("crept by as much as can be", x.reads(1, 1500), 10000 + 1575 + 50 + 261);
        check.due("not crept", x.reads(0, -400), 10000 - 380 - 50);
    }

    private static void dueReads(int gain, int degree, int reading) {
        ThawPoints x = new ThawPoints();
        x.make(0, gain, 3);
        check.due("reads of gain " + gain + " at " + degree, x.reads(0, degree), 10000 + reading);
    }

    private static void termRoundedDown() {
        check.keeps(0, "divisions are rounded down (towards the lesser number, also below 0).");
        dueReads(1, -1, -2);
        dueReads(0, -1, -1);
        dueReads(-1, -1, -1);
        dueReads(-1, 1, 0);
        dueReads(1, 1, 1);
        dueReads(49, 1499, 1572);
        dueReads(-49, -399, -380);
        dueReads(49, -399, -419);
        dueReads(50, -20, -21);
        dueReads(50, -19, -20);
        dueReads(50, -21, -23);
        ThawPoints x = new ThawPoints();
        x.make(0, 50, 3);
        Made.fix(x, 0);
        int[] readings = {-999, -22, -21, -20, -1, 0, 1, 20, 21, 22, 1049, 1050, 1051};
        int[] degrees = {-952, -21, -20, -20, -1, 0, 0, 19, 20, 20, 999, 1000, 1000};
        for (int index = 0; index < readings.length; index++) {
            for (int way = 0; way < 2; way++) {
                check.due("corrected(0, " + readings[index] + ", " + way + ")", x.corrected(0, readings[index], way),
                    10000000 + degrees[index]);
            }
        }
        check.due("overlap with itself below 0", x.overlap(0, 0, -399), 0);
    }

    private static void termCreep() {
        check.keeps(0, "When a year passes, each thermometer creeps by the setting of its batch (0 to 3),"
            + " divided by its age and 1, together; then its age is 1 more.");
        ThawPoints x = Made.with(1);
        x.set(3, 60);
        int[] years = {1, 1, 10, 1, 6, 20, 19, 1, 1, 1};
        int[] crept = {60, 90, 184, 188, 208, 240, 259, 260, 261, 261};
        int age = 0;
        for (int index = 0; index < years.length; index++) {
            x.pass(years[index]);
            age += years[index];
            check.due("age", x.thermometer(0, 1), age);
            check.due("crept at the age " + age, x.thermometer(0, 2), crept[index]);
        }
    }

    private static void termCreepByBatch() {
        check.keeps(0, "each thermometer creeps by the setting of its batch (0 to 3)");
        ThawPoints x = new ThawPoints();
        int[] creep = {0, 1, 59, 60};
        for (int batch = 0; batch < 4; batch++) {
            x.set(batch, creep[batch]);
            x.make(0, 0, batch);
        }
        x.pass(1);
        int[] second = {0, 1, 59 + 29, 60 + 30};
        for (int batch = 0; batch < 4; batch++) {
            check.due("crept in a year of batch " + batch, x.thermometer(batch, 2), creep[batch]);
        }
        x.pass(1);
        for (int batch = 0; batch < 4; batch++) {
            check.due("crept in two years of batch " + batch, x.thermometer(batch, 2), second[batch]);
        }
        check.due("crept of all", x.count(5), 1 + 88 + 90);
    }

    private static void termCreepByYear() {
        check.keeps(0, "divided by its age and 1, together; then its age is 1 more.");
        ThawPoints x = Made.with(1);
        x.set(3, 3);
        x.pass(3);
        check.due("crept by 3, 1 and 1", x.thermometer(0, 2), 5);
        x.pass(20);
        check.due("no more from the age 3 on", x.thermometer(0, 2), 5);
        x.make(0, 0, 3);
        x.pass(1);
        check.due("a new one creeps by all", x.thermometer(1, 2), 3);
        check.due("its age", x.thermometer(1, 1), 1);
        check.due("the age of the old one", x.thermometer(0, 1), 24);
        x.set(3, 24);
        x.pass(1);
        check.due("the old one divides by 25", x.thermometer(0, 2), 5);
        x.set(3, 26);
        x.pass(1);
        check.due("the old one divides by 26", x.thermometer(0, 2), 6);
    }

    private static void termBaths() {
        check.keeps(0, "There are 4 baths, numbered from 0, each with a degree, -400 to 1500;"
            + " at first 0, 1000, 370 and -100.");
        int[] first = {0, 1000, 370, -100};
        ThawPoints x = Made.with(1);
        for (int bath = 0; bath < 4; bath++) {
            check.due("count of the bath " + bath, x.count(6 + bath), 10000 + first[bath]);
            check.due("measure in the bath " + bath, x.measure(0, bath), bath + 1);
        }
        int[] sorted = {-100, 0, 370, 1000};
        for (int place = 0; place < 4; place++) {
            check.due("degree of the point " + place, x.point(0, place, 1), 10000 + sorted[place]);
        }
        check.noIndex(x, "measure in the bath 4", () -> x.measure(0, 4));
        check.noIndex(x, "measure in the bath -1", () -> x.measure(0, -1));
    }

    private static void termSettings() {
        check.keeps(0, "0 to 3: creep of the batches, 0 to 60, at first 12, 6, 20 and 0;");
        dueSetting(0, 12, 60);
        dueSetting(1, 6, 60);
        dueSetting(2, 20, 60);
        dueSetting(3, 0, 60);
        check.keeps(0, "4: 0 to 20, at first 2;");
        dueSetting(4, 2, 20);
        check.keeps(0, "5: 0 to 100, at first 4;");
        dueSetting(5, 4, 100);
        check.keeps(0, "6: 0 to 100, at first 10.");
        dueSetting(6, 10, 100);
    }

    private static void dueSetting(int setting, int first, int greatest) {
        ThawPoints x = new ThawPoints();
        check.due("setting " + setting, x.count(10 + setting), first);
        check.due("set(" + setting + ", greatest)", x.set(setting, greatest), first);
        check.due("set(" + setting + ", 0)", x.set(setting, 0), greatest);
        check.due("the least value of " + setting, x.count(10 + setting), 0);
        check.allowsArgument("set(" + setting + ", ..)", ThawPoints::new, 0, greatest, (y, value) -> y.set(setting, value));
    }

    private static void promise1NewObject() {
        check.keeps(1, "Creates baths as told above, without thermometers and a snapshot, in the year 0,"
            + " with an empty buffer.");
        ThawPoints x = new ThawPoints();
        long[] counts = {0, 0, 0, 0, 0, 0, 10000, 11000, 10370, 9900, 12, 6, 20, 0, 2, 4, 10, 0};
        for (int what = 0; what < counts.length; what++) {
            check.due("count(" + what + ")", x.count(what), counts[what]);
        }
        check.noIndex(x, "breakOne(0)", () -> x.breakOne(0));
        check.noState(x, "restore()", () -> x.restore());
        check.noState(x, "undo()", () -> x.undo());
        check.due("clearBuffer()", x.clearBuffer(), 0);
        check.due("stopped(0)", x.stopped(0), -1);
        check.due("stopped(1)", x.stopped(1), -1);
    }

    private static void promise2Zero() {
        check.keeps(2, "zero: -50 to 50");
        check.allowsArgument("make of the zero", ThawPoints::new, -50, 50, (x, zero) -> x.make(zero, 0, 0));
        ThawPoints x = new ThawPoints();
        x.make(-50, 0, 0);
        x.make(50, 0, 0);
        check.due("reads of the least", x.reads(0, 0), 9950);
        check.due("reads of the greatest", x.reads(1, 0), 10050);
    }

    private static void promise2Gain() {
        check.keeps(2, "gain: -50 to 50");
        check.allowsArgument("make of the gain", ThawPoints::new, -50, 50, (x, gain) -> x.make(0, gain, 0));
        ThawPoints x = new ThawPoints();
        x.make(0, -50, 0);
        x.make(0, 50, 0);
        check.due("reads of the least", x.reads(0, 1000), 10950);
        check.due("reads of the greatest", x.reads(1, 1000), 11050);
    }

    private static void promise2Batch() {
        check.keeps(2, "batch: 0 to 3");
        check.allowsArgument("make of the batch", ThawPoints::new, 0, 3, (x, batch) -> x.make(0, 0, batch));
        ThawPoints x = new ThawPoints();
        for (int batch = 0; batch < 4; batch++) {
            x.make(0, 0, batch);
            check.due("batch", x.thermometer(batch, 0), batch);
        }
    }

    private static void promise2OutOfRange() {
        check.keeps(2, "Throws IllegalArgumentException if zero, gain or batch is out of range");
        ThawPoints x = Made.with(6);
        check.noArgument(x, "make of a wrong zero with six", () -> x.make(51, 0, 0));
        check.noArgument(x, "make of a wrong gain with six", () -> x.make(0, -51, 0));
        check.noArgument(x, "make of a wrong batch with six", () -> x.make(0, 0, 4));
        check.noArgument(x, "make of all wrong", () -> x.make(-51, 51, -1));
    }

    private static void promise2Six() {
        check.keeps(2, "Throws IllegalStateException if there are 6");
        ThawPoints x = Made.with(5);
        check.due("make with five", x.make(0, 0, 0), 5);
        check.noState(x, "make with six", () -> x.make(0, 0, 0));
        x.undo();
        check.due("make with five again", x.make(0, 0, 0), 5);
    }

    private static void promise2Undoable() {
        check.keeps(2, "Makes a thermometer. Undoable.");
        check.keeps(2, "Returns its number.");
        ThawPoints x = new ThawPoints();
        for (int number = 0; number < 6; number++) {
            check.due("make", x.make(0, 0, 0), number);
            check.due("saved states", x.count(17), number + 1);
        }
        for (int left = 5; left >= 0; left--) {
            check.due("undo", x.undo(), left);
            check.due("thermometers", x.count(1), left);
        }
        check.due("make after all undo", x.make(0, 0, 0), 0);
    }

    private static void promise3Number() {
        check.keeps(3, "thermometer: its number");
        check.keeps(3, "Throws IndexOutOfBoundsException if there is no such thermometer");
        check.allowsIndex("breakOne of one", () -> Made.with(1), 0, 0, ThawPoints::breakOne);
        check.allowsIndex("breakOne of six", () -> Made.with(6), 0, 5, ThawPoints::breakOne);
        ThawPoints x = new ThawPoints();
        check.noIndex(x, "breakOne(0) of none", () -> x.breakOne(0));
        x.make(0, 0, 0);
        x.breakOne(0);
        check.noIndex(x, "breakOne(0) of a broken one", () -> x.breakOne(0));
    }

    private static void dueLeft(int broken, int... zeros) {
        ThawPoints x = new ThawPoints();
        for (int zero = 0; zero < 6; zero++) {
            x.make(zero, 0, 3);
            Made.measure(x, zero, 100 * zero);
        }
        check.due("breakOne(" + broken + ")", x.breakOne(broken), 1);
        check.due("thermometers left", x.count(1), 5);
        for (int number = 0; number < 5; number++) {
            check.due("zero of " + number, x.reads(number, 0), 10000 + zeros[number]);
            check.due("point of " + number, x.point(number, 0, 1), 10000 + 100 * zeros[number]);
        }
        check.noIndex(x, "thermometer(5, 0)", () -> x.thermometer(5, 0));
        x.undo();
        for (int number = 0; number < 6; number++) {
            check.due("zero of " + number + " after undo", x.reads(number, 0), 10000 + number);
        }
    }

    private static void promise3Behind() {
        check.keeps(3, "Breaks a thermometer; those behind it have numbers that are less by 1. Undoable.");
        dueLeft(0, 1, 2, 3, 4, 5);
        dueLeft(1, 0, 2, 3, 4, 5);
        dueLeft(4, 0, 1, 2, 3, 5);
        dueLeft(5, 0, 1, 2, 3, 4);
    }

    private static void promise3Points() {
        check.keeps(3, "Returns how many points it had.");
        check.due("breakOne of one without points", Made.with(1).breakOne(0), 0);
        check.due("breakOne of one with a point", Made.pointed(5).breakOne(0), 1);
        check.due("breakOne of one with ten", Made.pointed(Made.tenDegrees()).breakOne(0), 10);
        ThawPoints x = Made.pointed(5);
        x.forget(0, 5);
        check.due("breakOne of one whose point is dropped", x.breakOne(0), 0);
        check.due("points of all", x.count(2), 0);
    }

    private static void promise4Bath() {
        check.keeps(4, "bath: 0 to 3");
        check.keeps(4, "Throws IndexOutOfBoundsException if there is no such bath");
        check.allowsIndex("bath(.., 5)", ThawPoints::new, 0, 3, (x, bath) -> x.bath(bath, 5));
        ThawPoints x = new ThawPoints();
        check.noIndex(x, "bath(4, 1501), where both are wrong", () -> x.bath(4, 1501));
        check.noIndex(x, "bath(-1, -401), where both are wrong", () -> x.bath(-1, -401));
    }

    private static void promise4Degree() {
        check.keeps(4, "degree: -400 to 1500");
        check.keeps(4, "Throws IllegalArgumentException if degree is out of range");
        for (int bath = 0; bath < 4; bath++) {
            int here = bath;
            check.allowsArgument("bath(" + here + ", ..)", ThawPoints::new, -400, 1500, (x, degree) -> x.bath(here, degree));
        }
    }

    private static void promise4Previous() {
        check.keeps(4, "Changes the degree of a bath. Undoable.");
        check.keeps(4, "Returns the previous one, and 10000 more.");
        int[] first = {0, 1000, 370, -100};
        for (int bath = 0; bath < 4; bath++) {
            ThawPoints x = new ThawPoints();
            check.due("bath to the least", x.bath(bath, -400), 10000 + first[bath]);
            check.due("bath to the greatest", x.bath(bath, 1500), 9600);
            check.due("bath to the same", x.bath(bath, 1500), 11500);
            check.due("the same is saved too", x.count(17), 3);
            check.due("degree", x.count(6 + bath), 11500);
            x.undo();
            x.undo();
            check.due("degree after undo", x.count(6 + bath), 9600);
        }
    }

    private static void promise5Years() {
        check.keeps(5, "years: 1 to 20");
        check.keeps(5, "Throws IllegalArgumentException if years is out of range");
        check.allowsArgument("pass", ThawPoints::new, 1, 20, ThawPoints::pass);
        check.allowsArgument("pass with six", () -> Made.with(6), 1, 20, ThawPoints::pass);
    }

    private static void promise5OneCall() {
        check.keeps(5, "Lets years pass. Undoable, as one call.");
        ThawPoints x = new ThawPoints();
        x.make(0, 0, 0);
        x.pass(20);
        check.due("saved states", x.count(17), 2);
        check.due("crept", x.thermometer(0, 2), 35);
        check.due("undo", x.undo(), 1);
        check.due("year after undo", x.count(0), 0);
        check.due("age after undo", x.thermometer(0, 1), 0);
        check.due("crept after undo", x.thermometer(0, 2), 0);
        for (int year = 0; year < 20; year++) {
            x.pass(1);
        }
        check.due("crept in as many calls", x.thermometer(0, 2), 35);
        check.due("age in as many calls", x.thermometer(0, 1), 20);
    }

    private static void promise5Year() {
        check.keeps(5, "Returns the year then.");
        ThawPoints x = new ThawPoints();
        check.due("pass(1)", x.pass(1), 1);
        check.due("pass(20)", x.pass(20), 21);
        for (int call = 3; call <= 500; call++) {
            x.pass(20);
        }
        check.due("pass(20) for the last time", x.pass(20), 1 + 20 * 500);
    }

    private static void promise6Setting() {
        check.keeps(6, "setting: 0 to 6");
        check.keeps(6, "Throws IndexOutOfBoundsException if there is no such setting");
        check.allowsIndex("set(.., 1)", ThawPoints::new, 0, 6, (x, setting) -> x.set(setting, 1));
        ThawPoints x = new ThawPoints();
        check.noIndex(x, "set(7, -1), where both are wrong", () -> x.set(7, -1));
        check.noIndex(x, "set(-1, 101), where both are wrong", () -> x.set(-1, 101));
    }

    private static void promise6Value() {
        check.keeps(6, "value: the new value");
        check.keeps(6, "Throws IllegalArgumentException if value is out of range");
        int[] greatest = {60, 60, 60, 60, 20, 100, 100};
        for (int setting = 0; setting < 7; setting++) {
            int here = setting;
            check.allowsArgument("set(" + here + ", ..)", () -> Made.with(6), 0, greatest[here],
                (x, value) -> x.set(here, value));
        }
    }

    private static void promise6Previous() {
        check.keeps(6, "Changes a setting. Undoable.");
        check.keeps(6, "Returns the previous value.");
        int[] first = {12, 6, 20, 0, 2, 4, 10};
        ThawPoints x = new ThawPoints();
        for (int setting = 0; setting < 7; setting++) {
            check.due("set", x.set(setting, 20 - setting), first[setting]);
        }
        for (int setting = 0; setting < 7; setting++) {
            check.due("count(10 + " + setting + ")", x.count(10 + setting), 20 - setting);
            check.due("set to the same", x.set(setting, 20 - setting), 20 - setting);
        }
        check.due("saved states", x.count(17), 6);
        x.set(6, 0);
        x.undo();
        check.due("setting 6 after undo", x.count(16), 14);
    }
}
