/** Promises 1 to 6: a new object, make, breakOne, bath, pass, set. */
public final class ThermometersTest {
    private static final Check check = new Check("ThermometersTest");

    public static void main(String[] args) {
        promise1NewObject();
        promise2Make();
        promise3BreakOne();
        promise4Bath();
        promise5Pass();
        promise6Set();
        check.end();
    }

    private static void promise1NewObject() {
        ThawPoints x = new ThawPoints();
        long[] counts = {0, 0, 0, 0, 0, 0, 10000, 11000, 10370, 9900, 12, 6, 20, 0, 2, 4, 10, 0};
        for (int what = 0; what < counts.length; what++) {
            check.due("count(" + what + ") when new", x.count(what), counts[what]);
        }
        check.due("stopped(0) when new", x.stopped(0), -1);
        check.due("stopped(1) when new", x.stopped(1), -1);
        check.due("firstError() when new", x.firstError(), 0);
        check.due("clearBuffer() when new", x.clearBuffer(), 0);
        check.dueShare("validShare() when new", x.validShare(), 1.0);
        check.noState(x, "restore() when new", () -> x.restore());
        check.noState(x, "undo() when new", () -> x.undo());
        check.noIndex(x, "reads(0, 0) when new", () -> x.reads(0, 0));
        check.due("NONE", ThawPoints.NONE, -1);

        ThawPoints y = new ThawPoints();
        y.bath(0, 5);
        y.set(0, 5);
        y.make(0, 0, 0);
        check.due("bath of another object", x.count(6), 10000);
        check.due("setting of another object", x.count(10), 12);
        check.due("thermometers of another object", x.count(1), 0);
    }

    private static void promise2Make() {
        ThawPoints x = new ThawPoints();
        check.noArgument(x, "make zero 51", () -> x.make(51, 0, 0));
        check.noArgument(x, "make zero -51", () -> x.make(-51, 0, 0));
        check.noArgument(x, "make gain 51", () -> x.make(0, 51, 0));
        check.noArgument(x, "make gain -51", () -> x.make(0, -51, 0));
        check.noArgument(x, "make batch 4", () -> x.make(0, 0, 4));
        check.noArgument(x, "make batch -1", () -> x.make(0, 0, -1));
        check.noArgument(x, "make of the least int", () -> x.make(Integer.MIN_VALUE, 0, 0));
        check.due("make first", x.make(-50, 50, 0), 0);
        check.due("make second", x.make(50, -50, 3), 1);
        for (int number = 2; number < 6; number++) {
            check.due("make " + number, x.make(number, number, 1), number);
        }
        check.due("count(1) when full", x.count(1), 6);
        check.due("saved states when full", x.count(17), 6);
        check.noState(x, "make a seventh", () -> x.make(0, 0, 0));
        check.noArgument(x, "make a wrong seventh", () -> x.make(0, 0, 4));
        check.due("batch of the second", x.thermometer(1, 0), 3);
        int[] first = {0, 0, 0, 0, 0, -1, 0, 3, 0};
        for (int what = 0; what < first.length; what++) {
            check.due("thermometer(0, " + what + ") when made", x.thermometer(0, what), first[what]);
        }
        check.due("reads of the first", x.reads(0, 1000), 10000 + 1050 - 50);
        check.due("reads of the second", x.reads(1, 1000), 10000 + 950 + 50);
        check.due("undo of make", x.undo(), 5);
        check.due("count(1) after undo", x.count(1), 5);
    }

    private static void promise3BreakOne() {
        ThawPoints x = new ThawPoints();
        check.noIndex(x, "breakOne(0) without any", () -> x.breakOne(0));
        Check.doWork(x, "m0,0/0;m1,0/1;m2,0/2;m3,0/3;m4,0/0;m5,0/1");
        Check.doWork(x, "c1:0;c1:1;c2:1;p1;y1");
        check.noIndex(x, "breakOne(6)", () -> x.breakOne(6));
        check.noIndex(x, "breakOne(-1)", () -> x.breakOne(-1));
        long before = x.digest();
        check.due("breakOne(1)", x.breakOne(1), 2);
        check.due("thermometers left", x.count(1), 5);
        check.due("papers so far stay", x.count(4), 1);
        check.due("points of all", x.count(2), 1);
        int[] zeros = {0, 2, 3, 4, 5};
        int[] crept = {12, 20, 0, 12, 6};
        for (int number = 0; number < 5; number++) {
            check.due("reads of " + number, x.reads(number, 0), 10000 + zeros[number] + crept[number]);
        }
        check.due("points of the next", x.thermometer(1, 3), 1);
        check.due("reading of its point", x.point(1, 0, 0), 11002);
        check.noIndex(x, "breakOne(5) of five", () -> x.breakOne(5));
        check.due("make in the free place", x.make(9, 9, 2), 5);
        int[] fresh = {2, 0, 0, 0, 0, -1, 0, 3, 0};
        for (int what = 0; what < fresh.length; what++) {
            check.due("thermometer(5, " + what + ") made again", x.thermometer(5, what), fresh[what]);
        }
        check.due("reads of it", x.reads(5, 1000), 11018);
        x.undo();
        x.undo();
        check.due("digest after undo", x.digest(), before);
        check.due("breakOne of the last", x.breakOne(5), 0);
        check.due("breakOne of the first", x.breakOne(0), 0);
        check.due("points of the new first", x.thermometer(0, 3), 2);
        check.due("seal of the new first", x.thermometer(0, 5), 1);
    }

    private static void promise4Bath() {
        ThawPoints x = new ThawPoints();
        check.noIndex(x, "bath(4, 0)", () -> x.bath(4, 0));
        check.noIndex(x, "bath(-1, 0)", () -> x.bath(-1, 0));
        check.noIndex(x, "bath(4, 1501)", () -> x.bath(4, 1501));
        check.noArgument(x, "bath(0, 1501)", () -> x.bath(0, 1501));
        check.noArgument(x, "bath(0, -401)", () -> x.bath(0, -401));
        check.due("bath(0, 1500)", x.bath(0, 1500), 10000);
        check.due("bath(1, -400)", x.bath(1, -400), 11000);
        check.due("bath(2, 5)", x.bath(2, 5), 10370);
        check.due("bath(3, 6)", x.bath(3, 6), 9900);
        check.due("bath(1, -400) again", x.bath(1, -400), 9600);
        check.due("saved states", x.count(17), 5);
        check.due("count(6)", x.count(6), 11500);
        check.due("count(7)", x.count(7), 9600);
        check.due("count(8)", x.count(8), 10005);
        check.due("count(9)", x.count(9), 10006);
        x.undo();
        x.undo();
        check.due("count(9) after undo", x.count(9), 9900);
        check.due("count(8) after undo", x.count(8), 10005);
    }

    private static void promise5Pass() {
        ThawPoints x = new ThawPoints();
        check.noArgument(x, "pass(0)", () -> x.pass(0));
        check.noArgument(x, "pass(21)", () -> x.pass(21));
        check.noArgument(x, "pass(-1)", () -> x.pass(-1));
        check.due("pass(20) without thermometers", x.pass(20), 20);
        x.make(0, 0, 0);
        x.make(0, 0, 2);
        x.make(0, 0, 3);
        check.due("pass(1)", x.pass(1), 21);
        check.due("crept of batch 0 in a year", x.thermometer(0, 2), 12);
        check.due("crept of batch 2 in a year", x.thermometer(1, 2), 20);
        check.due("crept of batch 3 in a year", x.thermometer(2, 2), 0);
        x.make(0, 0, 1);
        check.due("pass(4)", x.pass(4), 25);
        check.due("crept of batch 0 in 5 years", x.thermometer(0, 2), 12 + 6 + 4 + 3 + 2);
        check.due("crept of batch 2 in 5 years", x.thermometer(1, 2), 20 + 10 + 6 + 5 + 4);
        check.due("crept of batch 1 in 4 years", x.thermometer(3, 2), 6 + 3 + 2 + 1);
        check.due("age of the first", x.thermometer(0, 1), 5);
        check.due("age of the last", x.thermometer(3, 1), 4);
        check.due("reads of the first", x.reads(0, 0), 10027);
        x.set(0, 60);
        check.due("pass(1) with another creep", x.pass(1), 26);
        check.due("crept then", x.thermometer(0, 2), 27 + 10);
        check.due("undo of pass", x.undo(), 5);
        x.undo();
        check.due("undo of pass(4) as one call", x.undo(), 3);
        check.due("year after undo", x.count(0), 21);
        check.due("age after undo", x.thermometer(0, 1), 1);
        check.due("crept after undo", x.thermometer(0, 2), 12);
    }

    private static void promise6Set() {
        ThawPoints x = new ThawPoints();
        int[] first = {12, 6, 20, 0, 2, 4, 10};
        int[] limits = {60, 60, 60, 60, 20, 100, 100};
        check.noIndex(x, "set(7, 0)", () -> x.set(7, 0));
        check.noIndex(x, "set(-1, 0)", () -> x.set(-1, 0));
        check.noIndex(x, "set(7, -1)", () -> x.set(7, -1));
        for (int setting = 0; setting < 7; setting++) {
            int here = setting;
            check.noArgument(x, "set(" + here + ", above)", () -> x.set(here, limits[here] + 1));
            check.noArgument(x, "set(" + here + ", -1)", () -> x.set(here, -1));
            check.due("set(" + here + ", most)", x.set(here, limits[here]), first[here]);
            check.due("count(10 + " + here + ")", x.count(10 + here), limits[here]);
            check.due("set(" + here + ", 0)", x.set(here, 0), limits[here]);
            check.due("set(" + here + ", 0) again", x.set(here, 0), 0);
            check.due("undo of set", x.undo(), x.count(17));
            x.undo();
            check.due("count(10 + " + here + ") after undo", x.count(10 + here), limits[here]);
        }
    }
}
