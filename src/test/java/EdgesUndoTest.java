import java.util.ArrayList;
import java.util.List;

/** The edges that the document names for undo, the snapshot and refused calls: terms, promises 15 to 17. */
public final class EdgesUndoTest {
    private static final Check check = new Check("EdgesUndoTest");

    public static void main(String[] args) {
        termUndoable();
        termNotUndoable();
        termChangesNothing();
        termAll();
        termCreptAtThePaper();
        termOrderOfPoints();
        termLatestStop();
        termButTheBuffer();
        termButTheSavedStates();
        termButTheSnapshot();
        termSixStates();
        termOldestFirst();
        termRefused();
        termFirstNamed();
        termCalls();
        promise15Left();
        promise15None();
        promise16Year();
        promise16InPlace();
        promise17None();
        promise17Stays();
        promise17Year();
        promise17Undoable();
        promise17EmptyAndFull();
        check.end();
    }

    /** A state in which every method that changes something finds something to change, with one saved state. */
    private static ThawPoints busy() {
        ThawPoints x = new ThawPoints();
        check.due("work", Check.doWork(x, "m1,2/0;m3,4/0;c0:0;c0:1;p0;c1:2;y1;c1:1;c1:0;p1;p1"), 10);
        x.keep();
        Check.write(x, "y1;p5");
        return x;
    }

    private static void dueSaved(String call, Check.Of of, int value, int saved) {
        ThawPoints x = busy();
        check.due("saved states at first", x.count(17), 1);
        of.answer(x, value);
        check.due("saved states behind " + call, x.count(17), 1 + saved);
    }

    private static void termUndoable() {
        check.keeps(0, "Each method that is marked \"undoable\" and does not throw an exception saves the state from"
            + " before it");
        dueSaved("make", (x, v) -> x.make(v, v, v), 1, 1);
        dueSaved("breakOne", (x, v) -> x.breakOne(v), 1, 1);
        dueSaved("bath", (x, v) -> x.bath(v, v), 1, 1);
        dueSaved("pass", (x, v) -> x.pass(v), 20, 1);
        dueSaved("set", (x, v) -> x.set(v, v), 1, 1);
        dueSaved("measure", (x, v) -> x.measure(v, v), 1, 1);
        dueSaved("forget", (x, v) -> x.forget(v, v), 0, 1);
        dueSaved("set and paper", (x, v) -> x.set(5, 100) + x.paper(v), 0, 2);
        dueSaved("work", (x, v) -> x.work(), 0, 1);
        dueSaved("restore", (x, v) -> x.restore(), 0, 1);
    }

    private static void termNotUndoable() {
        check.keeps(0, "Each method that is marked \"undoable\"");
        dueSaved("append", (x, v) -> x.append(v), 33, 0);
        dueSaved("clearBuffer", (x, v) -> x.clearBuffer(), 0, 0);
        dueSaved("firstError", (x, v) -> x.firstError(), 0, 0);
        dueSaved("stopped", (x, v) -> x.stopped(v), 0, 0);
        dueSaved("undo", (x, v) -> x.undo(), 0, -1);
        dueSaved("keep", (x, v) -> x.keep(), 0, 0);
        dueSaved("reads", (x, v) -> x.reads(v, v), 0, 0);
        dueSaved("corrected", (x, v) -> x.corrected(v, v, v), 0, 0);
        dueSaved("thermometer", (x, v) -> x.thermometer(v, v), 1, 0);
        dueSaved("point", (x, v) -> x.point(v, v, v), 1, 0);
        dueSaved("whyNot", (x, v) -> x.whyNot(v, v), 1, 0);
        dueSaved("overlap", (x, v) -> x.overlap(v, v, v), 1, 0);
        dueSaved("worstDegree", (x, v) -> x.worstDegree(v, v), 1, 0);
        dueSaved("voidIn", (x, v) -> x.voidIn(v), 0, 0);
        dueSaved("validShare", (x, v) -> (long) x.validShare(), 0, 0);
        dueSaved("digest", (x, v) -> x.digest(), 0, 0);
    }

    private static void termChangesNothing() {
        check.keeps(0, "(also if it changes nothing):");
        dueSaved("bath to the same degree", (x, v) -> x.bath(v, 1000), 1, 1);
        dueSaved("set to the same value", (x, v) -> x.set(v, 12), 0, 1);
        dueSaved("forget of a degree without a point", (x, v) -> x.forget(0, v), 1, 1);
        dueSaved("measure of the point that came last", (x, v) -> x.measure(1, v), 0, 1);
        dueSaved("restore of the same state", (x, v) -> x.restore(), 0, 1);
        dueSaved("work with nothing done", (x, v) -> Check.doWork(x, "p5"), 0, 1);
        ThawPoints x = busy();
        long before = x.digest();
        x.forget(0, 1);
        x.bath(0, 0);
        x.undo();
        x.undo();
        check.due("digest after undo of both", x.digest(), before);
    }

    private static void dueUndone(String call, Check.Of of, int value) {
        ThawPoints x = busy();
        long before = x.digest();
        of.answer(x, value);
        check.due("digest behind " + call + " is another", x.digest() != before ? 1 : 0, 1);
        x.undo();
        check.due("digest after undo of " + call, x.digest(), before);
        of.answer(x, value);
        x.undo();
        check.due("digest after undo of " + call + " again", x.digest(), before);
    }

    private static void termAll() {
        check.keeps(0, "saves the state from before it (also if it changes nothing): all,");
        dueUndone("make", (x, v) -> x.make(v, v, v), 1);
        dueUndone("breakOne of the first", (x, v) -> x.breakOne(v), 0);
        dueUndone("breakOne of the last", (x, v) -> x.breakOne(v), 1);
        for (int number = 0; number < 4; number++) {
            dueUndone("bath " + number, (x, v) -> x.bath(v, 77), number);
        }
        dueUndone("pass", (x, v) -> x.pass(v), 20);
        for (int number = 0; number < 7; number++) {
            dueUndone("set " + number, (x, v) -> x.set(v, 19), number);
        }
        dueUndone("measure", (x, v) -> x.measure(v, 3), 0);
        dueUndone("measure again", (x, v) -> x.measure(0, v), 0);
        dueUndone("forget", (x, v) -> x.forget(v, 0), 0);
        for (int number = 0; number < 2; number++) {
            dueUndone("make in the place of a broken one", EdgesUndoTest::breakAndMake, number);
        }
    }

    private static long breakAndMake(ThawPoints x, int number) {
        Check.doWork(x, "m9,9/3;c2:3;y20");
        x.undo();
        x.breakOne(number);
        x.make(7, 7, 2);
        x.measure(1, 2);
        x.undo();
        x.undo();
        Check.write(x, "y1;p5");
        return 0;
    }

    private static void termCreptAtThePaper() {
        check.keeps(0, "saves the state from before it (also if it changes nothing): all,");
        ThawPoints x = Made.papered();
        x.set(6, 30);
        Made.creep(x, 31);
        x.keep();
        check.due("new paper", x.paper(0), 2);
        x.undo();
        check.due("void after undo", x.thermometer(0, 6), 0);
        x.set(6, 31);
        check.due("valid after undo with as much as it crept", x.thermometer(0, 6), 1);
        x.undo();
        x.paper(0);
        x.restore();
        check.due("void after restore", x.thermometer(0, 6), 0);
        check.due("papers so far after restore", x.count(4), 1);
        x.set(6, 31);
        check.due("valid after restore with as much as it crept", x.thermometer(0, 6), 1);
    }

    private static void termOrderOfPoints() {
        check.keeps(0, "saves the state from before it (also if it changes nothing): all,");
        ThawPoints x = Made.pointed(500, 200, 800, 100, 300);
        x.keep();
        x.bath(2, 500);
        x.measure(0, 2);
        x.undo();
        x.forget(0, 200);
        check.due("the others came as before the undo", x.point(0, 1, 3), 3);
        x.undo();
        x.forget(0, 500);
        x.undo();
        x.forget(0, 500);
        check.due("the root is the next that came", x.point(0, 1, 3), 1);
        x.restore();
        x.forget(0, 200);
        check.due("the others came as before restore", x.point(0, 1, 3), 3);
        check.due("the root is as before restore", x.point(0, 2, 3), 1);
    }

    private static void termLatestStop() {
        check.keeps(0, "all, also the latest stop,");
        ThawPoints x = new ThawPoints();
        Check.doWork(x, "y1;p0");
        x.keep();
        Check.doWork(x, "m0,0/0;m0,0/0;p0");
        check.due("stopped(1)", x.stopped(1), 3);
        Check.doWork(x, "y1");
        check.due("stopped(1) with all done", x.stopped(1), -1);
        x.undo();
        check.due("stopped(0) after undo", x.stopped(0), 2);
        check.due("stopped(1) after undo", x.stopped(1), 3);
        x.undo();
        check.due("stopped(0) after two", x.stopped(0), 1);
        check.due("stopped(1) after two", x.stopped(1), 7);
        x.undo();
        check.due("stopped(0) after three", x.stopped(0), -1);
        check.due("stopped(1) after three", x.stopped(1), -1);
        x.restore();
        check.due("stopped(0) of the snapshot", x.stopped(0), 1);
        check.due("stopped(1) of the snapshot", x.stopped(1), 7);
    }

    private static void termButTheBuffer() {
        check.keeps(0, "but the buffer, the saved states and the snapshot.");
        ThawPoints x = new ThawPoints();
        Check.write(x, "y1");
        x.keep();
        x.pass(1);
        x.append('9');
        x.undo();
        check.due("the buffer after undo", x.append(';'), 4);
        x.restore();
        check.due("the buffer after restore", x.append(';'), 5);
        check.due("firstError then", x.firstError(), 4);
        x.clearBuffer();
        Check.doWork(x, "y1");
        x.undo();
        check.due("the buffer after undo of work", x.clearBuffer(), 0);
        Check.write(x, "y1");
        x.restore();
        x.clearBuffer();
        x.undo();
        check.due("the buffer after undo of restore", x.clearBuffer(), 0);
    }

    private static void termButTheSavedStates() {
        check.keeps(0, "but the buffer, the saved states and the snapshot.");
        ThawPoints x = new ThawPoints();
        x.pass(1);
        x.pass(2);
        x.keep();
        x.pass(3);
        x.restore();
        check.due("saved states behind restore", x.count(17), 4);
        check.due("undo of restore", x.undo(), 3);
        check.due("year then", x.count(0), 6);
        check.due("undo", x.undo(), 2);
        check.due("year of it", x.count(0), 3);
        x.undo();
        x.undo();
        check.due("year at last", x.count(0), 0);
        x.restore();
        check.due("saved states behind restore with none", x.count(17), 1);
    }

    private static void termButTheSnapshot() {
        check.keeps(0, "but the buffer, the saved states and the snapshot.");
        ThawPoints x = new ThawPoints();
        x.pass(1);
        x.keep();
        x.undo();
        check.due("restore of the later snapshot", x.restore(), 1);
        x.pass(1);
        x.keep();
        x.undo();
        x.undo();
        check.due("restore after two undo", x.restore(), 2);
    }

    private static void termSixStates() {
        check.keeps(0, "At most 6 states are saved; the oldest one is dropped first.");
        for (int calls = 0; calls <= 20; calls++) {
            ThawPoints x = new ThawPoints();
            for (int call = 0; call < calls; call++) {
                x.pass(1);
            }
            int saved = Math.min(calls, 6);
            check.due("saved states of " + calls, x.count(17), saved);
            for (int left = saved - 1; left >= 0; left--) {
                check.due("undo of " + calls, x.undo(), left);
                check.due("year", x.count(0), calls - saved + left);
            }
            check.noState(x, "undo of none", () -> x.undo());
        }
    }

    private static void termOldestFirst() {
        check.keeps(0, "At most 6 states are saved; the oldest one is dropped first.");
        ThawPoints x = new ThawPoints();
        List<Integer> saved = new ArrayList<>();
        int year = 0;
        for (int call = 0; call < 250; call++) {
            if (call * call % 11 < 4 && !saved.isEmpty()) {
                year = saved.remove(saved.size() - 1);
                check.due("undo", x.undo(), saved.size());
            } else {
                saved.add(year);
                if (saved.size() > 6) {
                    saved.remove(0);
                }
                year += 1 + call % 20;
                check.due("pass", x.pass(1 + call % 20), year);
            }
            check.due("year", x.count(0), year);
        }
    }

    /** Six thermometers, six saved states, a snapshot, a stop and a full buffer. */
    private static ThawPoints crowded() {
        ThawPoints x = Made.pointed(Made.tenDegrees());
        for (int number = 1; number < 6; number++) {
            x.make(number, number, 3);
        }
        x.keep();
        Check.doWork(x, "c1:0;c1:1;p1;b2=950;c0:2");
        Check.write(x, "y1;y1;y1;y1;y1;y1;y1;y1;y1;y1;y1;y1;y1;y1;y1;y1;y1;y1;y1;y21");
        x.pass(1);
        return x;
    }

    private static void termRefused() {
        check.keeps(0, "A call that throws an exception changes nothing.");
        ThawPoints x = crowded();
        refuseAll(x);
        ThawPoints same = crowded();
        check.due("digest", x.digest(), same.digest());
        for (int left = 5; left >= 0; left--) {
            check.due("undo", x.undo(), left);
            same.undo();
            check.due("digest after undo", x.digest(), same.digest());
        }
        check.noState(x, "undo of none", () -> x.undo());
        x.restore();
        same.restore();
        check.due("digest of the snapshot", x.digest(), same.digest());
        ThawPoints y = new ThawPoints();
        check.noState(y, "restore without a snapshot", () -> y.restore());
        check.noState(y, "undo without a saved state", () -> y.undo());
        check.due("saved states then", y.count(17), 0);
        check.noState(y, "restore without a snapshot again", () -> y.restore());
    }

    private static void refuseAll(ThawPoints x) {
        check.noArgument(x, "make", () -> x.make(51, 0, 0));
        check.noState(x, "make a seventh", () -> x.make(0, 0, 0));
        check.noIndex(x, "breakOne", () -> x.breakOne(6));
        check.noIndex(x, "bath", () -> x.bath(4, 0));
        check.noArgument(x, "bath of a degree", () -> x.bath(0, 1501));
        check.noArgument(x, "pass", () -> x.pass(21));
        check.noIndex(x, "set", () -> x.set(7, 0));
        check.noArgument(x, "set of a value", () -> x.set(4, 21));
        check.noIndex(x, "measure", () -> x.measure(6, 0));
        check.noIndex(x, "measure in a bath", () -> x.measure(0, 4));
        check.noState(x, "measure of an eleventh", () -> x.measure(0, 2));
        check.noIndex(x, "forget", () -> x.forget(6, 0));
        check.noArgument(x, "forget of a degree", () -> x.forget(0, 1501));
        check.noIndex(x, "paper", () -> x.paper(6));
        check.noState(x, "paper with a valid one", () -> x.paper(1));
        check.noState(x, "paper without a point of 1000", () -> x.paper(0));
        check.noArgument(x, "append", () -> x.append(32));
        check.noState(x, "append to sixty", () -> x.append(33));
        check.noArgument(x, "work", () -> x.work());
        check.noArgument(x, "stopped", () -> x.stopped(2));
        check.noIndex(x, "reads", () -> x.reads(6, 0));
        check.noArgument(x, "reads of a degree", () -> x.reads(0, 1501));
        check.noIndex(x, "corrected", () -> x.corrected(6, 0, 0));
        check.noArgument(x, "corrected of a reading", () -> x.corrected(0, 2000, 0));
        check.noArgument(x, "corrected by a way", () -> x.corrected(0, 0, 2));
        check.noIndex(x, "thermometer", () -> x.thermometer(6, 0));
        check.noArgument(x, "thermometer of what", () -> x.thermometer(0, 9));
        check.noIndex(x, "point", () -> x.point(6, 0, 0));
        check.noArgument(x, "point at a place", () -> x.point(0, -1, 0));
        check.noArgument(x, "point of what", () -> x.point(0, 0, 4));
        check.noArgument(x, "count", () -> x.count(18));
        check.noIndex(x, "whyNot", () -> x.whyNot(6, 0));
        check.noIndex(x, "whyNot in a bath", () -> x.whyNot(0, 4));
        check.noIndex(x, "overlap", () -> x.overlap(6, 0, 0));
        check.noIndex(x, "overlap with another", () -> x.overlap(0, 6, 0));
        check.noArgument(x, "overlap at a degree", () -> x.overlap(0, 0, 1501));
        check.noIndex(x, "worstDegree", () -> x.worstDegree(6, 0));
        check.noIndex(x, "worstDegree with another", () -> x.worstDegree(0, 6));
        check.noIndex(x, "voidIn", () -> x.voidIn(6));
    }

    private static void termFirstNamed() {
        check.keeps(0, "If several exceptions apply, the one that is named first in the throws clause is thrown.");
        ThawPoints x = crowded();
        check.noArgument(x, "make a wrong seventh", () -> x.make(0, 0, -1));
        check.noIndex(x, "bath", () -> x.bath(-1, 1501));
        check.noIndex(x, "set", () -> x.set(-1, -1));
        check.noIndex(x, "measure of one with ten in no bath", () -> x.measure(0, -1));
        check.noIndex(x, "measure of none in a bath", () -> x.measure(6, 2));
        check.noIndex(x, "forget", () -> x.forget(-1, -401));
        check.noArgument(x, "append a wrong one to sixty", () -> x.append(127));
        check.noIndex(x, "reads", () -> x.reads(6, -401));
        check.noIndex(x, "corrected", () -> x.corrected(6, -1000, 2));
        check.noIndex(x, "thermometer", () -> x.thermometer(6, -1));
        check.noIndex(x, "point", () -> x.point(6, -1, 4));
        check.noIndex(x, "overlap of none", () -> x.overlap(-1, 0, 1501));
        check.noIndex(x, "overlap with none", () -> x.overlap(0, -1, -401));
        check.noIndex(x, "whyNot of none in none", () -> x.whyNot(6, 4));
    }

    private static void termCalls() {
        check.keeps(0, "An object is used for at most 512 calls after it has been made;");
        ThawPoints x = new ThawPoints();
        x.make(0, 0, 2);
        for (int call = 2; call <= 511; call++) {
            x.pass(20);
        }
        check.due("age at the call 512", x.thermometer(0, 1), 20 * 510);
        ThawPoints y = new ThawPoints();
        for (int call = 1; call <= 511; call++) {
            y.pass(20);
        }
        check.due("undo at the call 512", y.undo(), 5);
        ThawPoints z = Made.with(1);
        Made.fix(z, 0);
        for (int call = 6; call <= 510; call++) {
            z.keep();
        }
        z.pass(1);
        check.due("paper at the call 512", z.paper(0), 1);
    }

    private static void promise15Left() {
        check.keeps(15, "Restores the latest saved state, and drops it.");
        check.keeps(15, "Returns how many saved states are left.");
        ThawPoints x = new ThawPoints();
        x.pass(1);
        check.due("undo of one", x.undo(), 0);
        for (int years = 1; years <= 7; years++) {
            x.pass(years);
        }
        int[] left = {21, 15, 10, 6, 3, 1};
        for (int index = 0; index < 6; index++) {
            check.due("undo", x.undo(), 5 - index);
            check.due("year", x.count(0), left[index]);
        }
    }

    private static void promise15None() {
        check.keeps(15, "Throws IllegalStateException if there is none");
        ThawPoints x = new ThawPoints();
        check.noState(x, "undo of a new one", () -> x.undo());
        x.pass(1);
        x.undo();
        check.noState(x, "undo of one that is undone", () -> x.undo());
        check.noArgument(x, "pass(0)", () -> x.pass(0));
        check.noState(x, "undo behind a refused call", () -> x.undo());
        x.keep();
        x.append('y');
        check.noState(x, "undo behind calls that are not undoable", () -> x.undo());
    }

    private static void promise16Year() {
        check.keeps(16, "Returns the year.");
        ThawPoints x = new ThawPoints();
        check.due("keep of a new one", x.keep(), 0);
        x.pass(20);
        check.due("keep in the year 20", x.keep(), 20);
        x.undo();
        check.due("keep after undo", x.keep(), 0);
    }

    private static void promise16InPlace() {
        check.keeps(16, "Takes a snapshot, in place of the one before.");
        ThawPoints x = new ThawPoints();
        x.keep();
        x.pass(1);
        x.keep();
        x.pass(1);
        check.due("restore", x.restore(), 1);
        x.make(0, 0, 0);
        x.keep();
        x.breakOne(0);
        x.restore();
        check.due("thermometers of the latest one", x.count(1), 1);
        long before = x.digest();
        x.keep();
        check.due("keep changes nothing", x.digest(), before);
    }

    private static void promise17None() {
        check.keeps(17, "Throws IllegalStateException if there is no snapshot");
        ThawPoints x = new ThawPoints();
        check.noState(x, "restore of a new one", () -> x.restore());
        x.pass(1);
        check.noState(x, "restore without a snapshot", () -> x.restore());
        x.undo();
        x.keep();
        check.due("restore with a snapshot", x.restore(), 0);
    }

    private static void promise17Stays() {
        check.keeps(17, "Restores the state of the snapshot, which stays. Undoable.");
        ThawPoints x = busy();
        for (int time = 0; time < 8; time++) {
            x.restore();
            x.clearBuffer();
            check.due("seal", x.thermometer(0, 5), 1);
            check.due("points", x.count(2), 5);
            check.due("depth of a tree", x.thermometer(1, 4), 2);
            x.bath(0, 5);
            x.set(0, 5);
            x.measure(1, 3);
            x.forget(0, 0);
            x.pass(20);
            x.breakOne(0);
        }
        check.due("restore at last", x.restore(), 1);
        check.due("bath 0", x.count(6), 10000);
        check.due("setting 0", x.count(10), 12);
        check.due("thermometers", x.count(1), 2);
        check.due("crept", x.count(5), 24);
        check.due("stopped(0)", x.stopped(0), 10);
    }

    private static void promise17Year() {
        check.keeps(17, "Returns the year then.");
        ThawPoints x = new ThawPoints();
        x.pass(7);
        x.keep();
        x.pass(20);
        check.due("restore", x.restore(), 7);
        check.due("year", x.count(0), 7);
        check.due("restore of the same", x.restore(), 7);
    }

    private static void promise17Undoable() {
        check.keeps(17, "Restores the state of the snapshot, which stays. Undoable.");
        ThawPoints x = new ThawPoints();
        x.keep();
        for (int year = 0; year < 6; year++) {
            x.pass(1);
        }
        check.due("restore with six saved", x.restore(), 0);
        check.due("saved states", x.count(17), 6);
        int[] years = {6, 5, 4, 3, 2, 1};
        for (int index = 0; index < 6; index++) {
            check.due("undo", x.undo(), 5 - index);
            check.due("year", x.count(0), years[index]);
        }
        check.noState(x, "undo of the one that was dropped", () -> x.undo());
    }

    private static void promise17EmptyAndFull() {
        check.keeps(17, "Restores the state of the snapshot, which stays. Undoable.");
        ThawPoints x = new ThawPoints();
        x.keep();
        for (int number = 0; number < 6; number++) {
            x.make(number, 0, 3);
            for (int degree : Made.tenDegrees()) {
                Made.measure(x, number, degree);
            }
        }
        x.restore();
        check.due("thermometers of the empty one", x.count(1), 0);
        check.due("points of the empty one", x.count(2), 0);
        x.undo();
        check.due("points of the full one after undo", x.count(2), 60);
        x.keep();
        for (int number = 5; number >= 0; number--) {
            x.breakOne(number);
        }
        x.make(9, 9, 0);
        x.restore();
        check.due("points of the full one", x.count(2), 60);
        for (int number = 0; number < 6; number++) {
            check.due("zero of " + number, x.reads(number, 0), 10000 + number);
            check.due("depth of " + number, x.thermometer(number, 4), 10);
            check.due("batch of " + number, x.thermometer(number, 0), 3);
        }
    }
}
