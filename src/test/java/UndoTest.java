/** Promises 15 to 17: undo, keep, restore. */
public final class UndoTest {
    private static final Check check = new Check("UndoTest");

    public static void main(String[] args) {
        promise15Undo();
        promise15AllIsSaved();
        promise16Keep();
        promise17Restore();
        check.end();
    }

    private static void promise15Undo() {
        ThawPoints x = new ThawPoints();
        check.noState(x, "undo of a new one", () -> x.undo());
        for (int years = 1; years <= 8; years++) {
            x.pass(years);
            check.due("saved states", x.count(17), Math.min(years, 6));
        }
        int[] years = {28, 21, 15, 10, 6, 3};
        for (int left = 5; left >= 0; left--) {
            check.due("undo", x.undo(), left);
            check.due("year after undo", x.count(0), years[5 - left]);
        }
        check.noState(x, "undo of the seventh", () -> x.undo());
        x.pass(1);
        x.pass(2);
        check.due("undo after undo", x.undo(), 1);
        check.due("year then", x.count(0), 4);
        x.pass(10);
        check.due("undo again", x.undo(), 1);
        check.due("undo once more", x.undo(), 0);
        check.due("year at last", x.count(0), 3);
    }

    private static void promise15AllIsSaved() {
        ThawPoints x = new ThawPoints();
        Check.doWork(x, "m1,2/0;m3,4/0;c0:0;c0:1;p0;y1;c1:1;c1:0;p4");
        x.keep();
        ThawPoints same = new ThawPoints();
        Check.doWork(same, "m1,2/0;m3,4/0;c0:0;c0:1;p0;y1;c1:1;c1:0;p4");
        check.due("twins are the same", x.digest(), same.digest());
        long before = x.digest();
        x.breakOne(0);
        x.undo();
        check.due("digest after breakOne and undo", x.digest(), before);
        x.bath(1, 5);
        x.undo();
        check.due("digest after bath and undo", x.digest(), before);
        x.set(5, 5);
        x.undo();
        check.due("digest after set and undo", x.digest(), before);
        x.pass(20);
        x.undo();
        check.due("digest after pass and undo", x.digest(), before);
        x.measure(0, 2);
        x.undo();
        check.due("digest after measure and undo", x.digest(), before);
        x.forget(0, 0);
        x.undo();
        check.due("digest after forget and undo", x.digest(), before);
        x.set(6, 0);
        x.paper(1);
        x.undo();
        x.undo();
        check.due("digest after paper and undo", x.digest(), before);
        Check.doWork(x, "y5;b2=7;c0:2;m0,0/0");
        check.due("no stop", x.stopped(0), -1);
        x.undo();
        check.due("digest after work and undo", x.digest(), before);
        x.pass(1);
        x.restore();
        x.undo();
        x.undo();
        check.due("digest after restore and undo", x.digest(), before);
        Check.write(x, "abc");
        x.pass(1);
        x.append('d');
        x.undo();
        check.due("undo leaves the buffer", x.clearBuffer(), 4);
    }

    private static void promise16Keep() {
        ThawPoints x = new ThawPoints();
        check.due("keep when new", x.keep(), 0);
        check.due("keep is not undoable", x.count(17), 0);
        x.pass(7);
        check.due("keep in the year 7", x.keep(), 7);
        x.pass(1);
        check.due("restore of the later one", x.restore(), 7);
        x.undo();
        x.undo();
        x.undo();
        check.due("undo leaves the snapshot", x.restore(), 7);
        x.make(1, 1, 1);
        x.measure(0, 0);
        Check.write(x, "y1");
        long before = x.digest();
        check.due("keep again", x.keep(), 7);
        check.due("keep changes nothing", x.digest(), before);
    }

    private static void promise17Restore() {
        ThawPoints x = new ThawPoints();
        check.noState(x, "restore without a snapshot", () -> x.restore());
        Check.doWork(x, "m1,1/0;c0:0;c0:1;p0;b3=77;p1");
        x.set(3, 33);
        check.due("keep", x.keep(), 0);
        long kept = x.digest();
        Check.doWork(x, "y20;b3=78;m0,0/1;c0:3");
        x.set(3, 34);
        x.breakOne(0);
        Check.write(x, "p0");
        int saved = x.count(17);
        check.due("restore", x.restore(), 0);
        check.due("restore is undoable", x.count(17), saved + 1);
        check.due("thermometers", x.count(1), 1);
        check.due("seal", x.thermometer(0, 5), 1);
        check.due("bath 3", x.count(9), 10077);
        check.due("setting 3", x.count(13), 33);
        check.due("stopped(0)", x.stopped(0), 5);
        check.due("stopped(1)", x.stopped(1), 7);
        check.due("the buffer stays", x.clearBuffer(), 2);
        check.due("undo of restore", x.undo(), saved);
        check.due("year after undo", x.count(0), 20);
        check.due("stop after undo", x.stopped(0), -1);
        check.due("bath 3 after undo", x.count(9), 10078);
        x.undo();
        x.undo();
        x.undo();
        check.due("saved states as when kept", x.count(17), 2);
        check.due("digest after all undo", x.digest(), kept);
        x.pass(1);
        check.due("restore twice", x.restore(), 0);
        x.pass(1);
        x.measure(0, 3);
        check.due("the snapshot stays", x.restore(), 0);
        check.due("points of the snapshot", x.count(2), 2);
    }
}
