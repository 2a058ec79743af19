/** Promises 7 to 9: measure, forget, paper. */
public final class PointsTest {
    private static final Check check = new Check("PointsTest");

    public static void main(String[] args) {
        promise7Measure();
        promise7Crossing();
        promise7TenPoints();
        promise8Forget();
        promise9Paper();
        promise9Overlap();
        promise9OverlapAt500();
        check.end();
    }

    private static void duePoint(ThawPoints x, int place, int reading, int degree, int year, int depth) {
        check.due("reading of point " + place, x.point(0, place, 0), reading + 10000);
        check.due("degree of point " + place, x.point(0, place, 1), degree + 10000);
        check.due("year of point " + place, x.point(0, place, 2), year);
        check.due("depth of point " + place, x.point(0, place, 3), depth);
    }

    private static void promise7Measure() {
        ThawPoints x = new ThawPoints();
        check.noIndex(x, "measure(0, 0) without any", () -> x.measure(0, 0));
        x.make(5, 10, 0);
        check.noIndex(x, "measure(1, 0)", () -> x.measure(1, 0));
        check.noIndex(x, "measure(-1, 0)", () -> x.measure(-1, 0));
        check.noIndex(x, "measure(0, 4)", () -> x.measure(0, 4));
        check.noIndex(x, "measure(0, -1)", () -> x.measure(0, -1));
        check.due("measure in 370", x.measure(0, 2), 1);
        x.pass(1);
        check.due("measure in 1000", x.measure(0, 1), 2);
        check.due("measure in -100", x.measure(0, 3), 3);
        check.due("measure in 0", x.measure(0, 0), 4);
        duePoint(x, 0, -101 + 17, -100, 1, 2);
        duePoint(x, 1, 17, 0, 1, 3);
        duePoint(x, 2, 373 + 5, 370, 0, 1);
        duePoint(x, 3, 1010 + 17, 1000, 1, 2);
        check.due("measure in 370 again", x.measure(0, 2), 4);
        duePoint(x, 0, -84, -100, 1, 2);
        duePoint(x, 1, 17, 0, 1, 3);
        duePoint(x, 2, 390, 370, 1, 4);
        duePoint(x, 3, 1027, 1000, 1, 1);
        check.due("undo of measure", x.undo(), 5);
        duePoint(x, 2, 378, 370, 0, 1);
        check.due("measure after undo", x.measure(0, 2), 4);
        check.due("depth after undo", x.thermometer(0, 4), 4);
    }

    private static void promise7Crossing() {
        ThawPoints x = new ThawPoints();
        x.set(0, 60);
        x.make(0, 0, 0);
        x.bath(2, 100);
        x.measure(0, 2);
        x.pass(1);
        x.bath(2, 40);
        check.due("whyNot at the same reading", x.whyNot(0, 2), 2);
        check.noState(x, "measure at the same reading", () -> x.measure(0, 2));
        x.bath(2, 41);
        check.due("whyNot at a greater reading and a lesser degree", x.whyNot(0, 2), 2);
        check.noState(x, "measure that crosses", () -> x.measure(0, 2));
        x.bath(2, 39);
        check.due("whyNot at a lesser reading and degree", x.whyNot(0, 2), 0);
        x.bath(2, 101);
        check.due("whyNot at a greater reading and degree", x.whyNot(0, 2), 0);
        x.bath(2, 100);
        check.due("whyNot at the same degree", x.whyNot(0, 2), 0);
        check.due("measure at the same degree", x.measure(0, 2), 1);
        check.due("its new reading", x.point(0, 0, 0), 10160);
        check.due("its new year", x.point(0, 0, 2), 1);

        ThawPoints y = new ThawPoints();
        y.set(0, 60);
        y.make(0, 0, 0);
        y.pass(1);
        y.bath(2, 100);
        y.measure(0, 2);
        y.make(0, 0, 0);
        y.breakOne(0);
        check.due("whyNot of a new one", y.whyNot(0, 2), 0);
    }

    private static void promise7TenPoints() {
        ThawPoints x = new ThawPoints();
        x.make(0, -50, 0);
        for (int number = 0; number < 10; number++) {
            x.bath(0, 100 * number);
            check.due("measure of point " + number, x.measure(0, 0), number + 1);
        }
        check.due("depth of ten in a row", x.thermometer(0, 4), 10);
        x.bath(0, 950);
        check.due("whyNot of an eleventh", x.whyNot(0, 0), 1);
        check.noState(x, "measure of an eleventh", () -> x.measure(0, 0));
        x.bath(0, 901);
        check.due("whyNot of an eleventh that crosses too", x.whyNot(0, 0), 1);
        x.bath(0, 500);
        check.due("whyNot of one of the ten", x.whyNot(0, 0), 0);
        check.due("measure of one of the ten", x.measure(0, 0), 10);
        check.due("depth then", x.thermometer(0, 4), 9);
        check.due("depth of the measured one", x.point(0, 5, 3), 7);
        x.pass(10);
        x.bath(0, 600);
        check.due("whyNot of one of the ten that is free", x.whyNot(0, 0), 0);
        x.set(0, 60);
        x.make(0, 0, 0);
        x.breakOne(0);
        for (int number = 0; number < 10; number++) {
            x.bath(0, 10 * number);
            x.measure(0, 0);
        }
        x.pass(1);
        x.bath(0, 50);
        check.due("whyNot of one of the ten that would cross", x.whyNot(0, 0), 2);
    }

    private static void promise8Forget() {
        ThawPoints x = new ThawPoints();
        check.noIndex(x, "forget(0, 0) without any", () -> x.forget(0, 0));
        x.make(0, 0, 3);
        check.noIndex(x, "forget(1, 0)", () -> x.forget(1, 0));
        check.noIndex(x, "forget(-1, 1501)", () -> x.forget(-1, 1501));
        check.noArgument(x, "forget(0, 1501)", () -> x.forget(0, 1501));
        check.noArgument(x, "forget(0, -401)", () -> x.forget(0, -401));
        check.due("forget without points", x.forget(0, 1500), 0);
        check.due("forget is saved also then", x.count(17), 2);
        x.measure(0, 2);
        x.measure(0, 0);
        x.measure(0, 1);
        x.measure(0, 3);
        check.due("depth of four", x.thermometer(0, 4), 3);
        check.due("forget the root", x.forget(0, 370), 1);
        check.due("forget the root again", x.forget(0, 370), 0);
        check.due("points left", x.thermometer(0, 3), 3);
        duePoint(x, 0, -100, -100, 0, 2);
        duePoint(x, 1, 0, 0, 0, 1);
        duePoint(x, 2, 1000, 1000, 0, 2);
        x.measure(0, 2);
        duePoint(x, 2, 370, 370, 0, 3);
        check.due("forget one that came in the middle", x.forget(0, 1000), 1);
        duePoint(x, 2, 370, 370, 0, 2);
        check.due("point(0, 3, 0)", x.point(0, 3, 0), -1);
        x.undo();
        check.due("points after undo", x.thermometer(0, 3), 4);
        duePoint(x, 2, 370, 370, 0, 3);
        x.forget(0, -100);
        x.forget(0, 0);
        x.forget(0, 370);
        check.due("forget the only one", x.forget(0, 1000), 1);
        check.due("points then", x.thermometer(0, 3), 0);
        check.due("depth then", x.thermometer(0, 4), 0);
        check.due("forget at the least degree", x.forget(0, -400), 0);
    }

    private static void promise9Paper() {
        ThawPoints x = new ThawPoints();
        check.noIndex(x, "paper(0) without any", () -> x.paper(0));
        x.make(0, 0, 0);
        check.noIndex(x, "paper(-1)", () -> x.paper(-1));
        check.noIndex(x, "paper(1)", () -> x.paper(1));
        check.due("reason without points", x.thermometer(0, 7), 3);
        check.noState(x, "paper without points", () -> x.paper(0));
        x.measure(0, 1);
        check.due("reason without 0", x.thermometer(0, 7), 3);
        check.noState(x, "paper without 0", () -> x.paper(0));
        x.forget(0, 1000);
        x.measure(0, 0);
        check.due("reason without 1000", x.thermometer(0, 7), 3);
        check.noState(x, "paper without 1000", () -> x.paper(0));
        x.measure(0, 1);
        x.measure(0, 2);
        x.pass(2);
        check.due("reason with points of 2 years", x.thermometer(0, 7), 0);
        x.pass(1);
        check.due("reason with points of 3 years", x.thermometer(0, 7), 4);
        check.noState(x, "paper with old points", () -> x.paper(0));
        x.measure(0, 0);
        check.due("reason with an old point of 1000", x.thermometer(0, 7), 4);
        x.undo();
        x.measure(0, 1);
        check.due("reason with an old point of 0", x.thermometer(0, 7), 4);
        x.measure(0, 0);
        check.due("reason with an old other point", x.thermometer(0, 7), 0);
        x.set(4, 0);
        check.due("first paper", x.paper(0), 1);
        check.due("reason with a valid paper", x.thermometer(0, 7), 5);
        check.noState(x, "paper with a valid one", () -> x.paper(0));
        check.due("seal", x.thermometer(0, 5), 1);
        check.due("valid", x.thermometer(0, 6), 1);
        x.set(6, 2);
        x.pass(1);
        check.due("crept since", x.thermometer(0, 2), 12 + 6 + 4 + 3);
        check.due("reason with old points and a void paper", x.thermometer(0, 7), 4);
        check.due("void", x.thermometer(0, 6), 0);
        check.due("seal of a void paper", x.thermometer(0, 5), 1);
        x.set(6, 3);
        check.due("valid again by the setting", x.thermometer(0, 6), 1);
        x.set(6, 2);
        x.set(4, 1);
        check.due("new paper", x.paper(0), 2);
        check.due("new seal", x.thermometer(0, 5), 2);
        check.due("new paper is valid", x.thermometer(0, 6), 1);
        check.due("papers so far", x.count(4), 2);
        check.due("undo of paper", x.undo(), 5);
        check.due("seal after undo", x.thermometer(0, 5), 1);
        check.due("the old paper is void after undo", x.thermometer(0, 6), 0);
        check.due("papers so far after undo", x.count(4), 1);
        x.breakOne(0);
        x.make(0, 0, 0);
        check.due("seal of a new one", x.thermometer(0, 5), -1);
        x.measure(0, 0);
        x.measure(0, 1);
        check.due("next seal", x.paper(0), 2);
    }

    private static void promise9Overlap() {
        ThawPoints x = new ThawPoints();
        x.make(0, 0, 3);
        x.make(10, 0, 3);
        x.make(0, 0, 1);
        for (int number = 0; number < 3; number++) {
            x.measure(number, 0);
            x.measure(number, 1);
        }
        x.paper(0);
        x.set(3, 60);
        x.pass(1);
        check.due("void by creep", x.thermometer(0, 6), 0);
        x.measure(1, 0);
        x.measure(1, 1);
        x.set(6, 100);
        check.due("valid again", x.thermometer(0, 6), 1);
        check.due("overlap", x.overlap(0, 1, 500), 60);
        check.due("reason of the overlap", x.thermometer(1, 7), 6);
        check.noState(x, "paper with the overlap", () -> x.paper(1));
        x.set(5, 59);
        check.due("reason of the overlap still", x.thermometer(1, 7), 6);
        x.set(5, 60);
        check.due("reason with the setting at the overlap", x.thermometer(1, 7), 0);
        x.set(5, 4);
        check.due("reason of another batch", x.thermometer(2, 7), 0);
        x.forget(0, 1000);
        check.due("reason without an overlap", x.thermometer(1, 7), 0);
        x.undo();
        x.set(6, 59);
        check.due("reason with a void paper of the other", x.thermometer(1, 7), 0);
        x.paper(1);
        x.measure(0, 0);
        x.measure(0, 1);
        check.due("overlap then", x.overlap(0, 1, 500), 0);
        check.due("paper of the other then", x.paper(0), 3);
    }

    /** The second one, measured again in a bath after the creep, differs by the least too much at 500 alone. */
    private static void dueTooWide(int creep, int bath, int before, int here, int behind) {
        ThawPoints x = new ThawPoints();
        x.set(3, creep);
        x.set(6, 100);
        Check.doWork(x, "m0,0/3;m0,0/3;c0:0;c0:1;c1:0;c1:1;p0;y1");
        x.measure(1, bath);
        check.due("overlap at 499", x.overlap(0, 1, 499), before);
        check.due("overlap at 500", x.overlap(0, 1, 500), here);
        check.due("overlap at 501", x.overlap(0, 1, 501), behind);
        x.set(5, here - 1);
        check.due("reason of the overlap at 500", x.thermometer(1, 7), 6);
        check.noState(x, "paper with the overlap at 500", () -> x.paper(1));
        x.set(5, here);
        check.due("paper without it", x.paper(1), 2);
    }

    private static void promise9OverlapAt500() {
        dueTooWide(46, 1, 24, 25, 25);
        dueTooWide(31, 0, 16, 16, 15);
    }
}
