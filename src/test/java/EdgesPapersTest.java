/** The edges that the document names for overlaps and papers: terms, promise 9. */
public final class EdgesPapersTest {
    private static final Check check = new Check("EdgesPapersTest");

    public static void main(String[] args) {
        termOverlap();
        termNoOverlap();
        termSeal();
        termFixedPoints();
        termOlder();
        termOlderPoint();
        termValidAlready();
        termOverlapAbove();
        termOverlapLeastSetting();
        termOverlapGreatestSetting();
        termOverlapAt500();
        termOverlapWithSome();
        termOverlapOfBatch();
        termOverlapWithValid();
        termFirstReason();
        termVoid();
        termVoidLeastAndGreatest();
        termVoidSince();
        termNewPaper();
        promise9Thermometer();
        promise9Seal();
        promise9Refused();
        promise9Undoable();
        check.end();
    }

    private static void dueReason(ThawPoints x, int thermometer, int reason) {
        check.due("why no paper of " + thermometer, x.thermometer(thermometer, 7), reason);
        if (reason != 0) {
            check.noState(x, "paper(" + thermometer + ")", () -> x.paper(thermometer));
        }
    }

    /** The first one crept by so much since it was measured and got its paper; the second one is just measured. */
    private static ThawPoints differing(int creep) {
        ThawPoints x = Made.with(2);
        x.set(6, 100);
        Made.fix(x, 0);
        x.paper(0);
        Made.creep(x, creep);
        Made.fix(x, 1);
        return x;
    }

    private static void termOverlap() {
        check.keeps(0, "The overlap of two thermometers at a degree is how much their corrected readings at this degree"
            + " differ, without the sign;");
        for (int creep : new int[] {0, 1, 60}) {
            ThawPoints x = differing(creep);
            check.due("overlap", x.overlap(0, 1, 500), creep);
            check.due("overlap, turned", x.overlap(1, 0, 500), creep);
            check.due("overlap with itself", x.overlap(0, 0, 500), 0);
        }
    }

    private static void termNoOverlap() {
        check.keeps(0, "there is none, if one of them has fewer than two points.");
        ThawPoints x = Made.with(2);
        check.due("overlap of none and none", x.overlap(0, 1, 0), -1);
        Made.measure(x, 0, 0);
        check.due("overlap of one and none", x.overlap(0, 1, 0), -1);
        check.due("overlap of one with itself", x.overlap(0, 0, 0), -1);
        Made.measure(x, 0, 1);
        check.due("overlap of two and none", x.overlap(0, 1, 0), -1);
        check.due("overlap of none and two", x.overlap(1, 0, 0), -1);
        check.due("overlap of two with itself", x.overlap(0, 0, 0), 0);
        Made.measure(x, 1, 0);
        check.due("overlap of two and one", x.overlap(0, 1, 0), -1);
        check.due("overlap of one and two", x.overlap(1, 0, 0), -1);
        Made.measure(x, 1, 1);
        check.due("overlap of two and two", x.overlap(0, 1, 0), 0);
        x.forget(0, 0);
        check.due("overlap of one and two, by forget", x.overlap(0, 1, 0), -1);
    }

    private static void termSeal() {
        check.keeps(0, "A thermometer gets a paper, with the next seal, from 1 on.");
        ThawPoints x = Made.with(6);
        check.due("papers so far at first", x.count(4), 0);
        for (int number = 5; number >= 0; number--) {
            Made.fix(x, number);
            check.due("paper(" + number + ")", x.paper(number), 6 - number);
            check.due("papers so far", x.count(4), 6 - number);
        }
        x.breakOne(0);
        check.due("papers so far without the last", x.count(4), 6);
        x.make(0, 0, 3);
        Made.fix(x, 5);
        check.due("paper of a new one", x.paper(5), 7);
        x.undo();
        check.due("paper after undo", x.paper(5), 7);
    }

    private static void termFixedPoints() {
        check.keeps(0, "3: it has no point of the degree 0, or none of the degree 1000;");
        dueReason(Made.with(1), 0, 3);
        dueReason(Made.pointed(0), 0, 3);
        dueReason(Made.pointed(1000), 0, 3);
        dueReason(Made.pointed(-1, 1, 1000), 0, 3);
        dueReason(Made.pointed(0, 999, 1001), 0, 3);
        dueReason(Made.pointed(0, 1000), 0, 0);
        dueReason(Made.pointed(1000, 500, 0), 0, 0);
        dueReason(Made.pointed(Made.tenDegrees()), 0, 3);
        dueReason(Made.pointed(1, 2, 3, 4, 5, 6, 7, 8, 0, 1000), 0, 0);
        ThawPoints x = Made.pointed(0, 1000);
        x.bath(0, 5);
        x.bath(1, 5);
        dueReason(x, 0, 0);
        ThawPoints y = new ThawPoints();
        y.make(50, 50, 3);
        Made.measure(y, 0, -50);
        Made.measure(y, 0, 900);
        dueReason(y, 0, 3);
    }

    private static void dueOlder(int years) {
        ThawPoints x = Made.pointed(0, 1000);
        x.set(4, years);
        for (int year = 0; year < years; year++) {
            x.pass(1);
        }
        dueReason(x, 0, 0);
        x.pass(1);
        dueReason(x, 0, 4);
        if (years < 20) {
            x.set(4, years + 1);
            dueReason(x, 0, 0);
        }
    }

    private static void termOlder() {
        check.keeps(0, "4: one of these two is older than setting 4 years;");
        dueOlder(0);
        dueOlder(1);
        dueOlder(2);
        dueOlder(19);
        dueOlder(20);
    }

    private static void termOlderPoint() {
        check.keeps(0, "4: one of these two is older than setting 4 years;");
        for (int old : new int[] {0, 1000}) {
            ThawPoints x = Made.pointed(old, 500);
            x.pass(3);
            Made.measure(x, 0, 1000 - old);
            dueReason(x, 0, 4);
            Made.measure(x, 0, 500);
            dueReason(x, 0, 4);
            Made.measure(x, 0, old);
            dueReason(x, 0, 0);
        }
        ThawPoints x = Made.pointed(500);
        x.pass(20);
        Made.fix(x, 0);
        dueReason(x, 0, 0);
    }

    private static void termValidAlready() {
        check.keeps(0, "5: it has a paper that is valid;");
        ThawPoints x = Made.papered();
        dueReason(x, 0, 5);
        x.set(6, 59);
        Made.creep(x, 60);
        check.due("valid", x.thermometer(0, 6), 0);
        dueReason(x, 0, 0);
        x.set(6, 60);
        check.due("valid with a greater setting", x.thermometer(0, 6), 1);
        dueReason(x, 0, 5);
        x.set(6, 59);
        check.due("paper", x.paper(0), 2);
        dueReason(x, 0, 5);
    }

    private static void termOverlapAbove() {
        check.keeps(0, "is above setting 5 at the degree 500.");
        dueReason(differing(4), 1, 0);
        dueReason(differing(5), 1, 6);
        ThawPoints x = differing(60);
        x.set(5, 59);
        dueReason(x, 1, 6);
        x.set(5, 60);
        dueReason(x, 1, 0);
        x.set(5, 61);
        dueReason(x, 1, 0);
    }

    private static void termOverlapLeastSetting() {
        check.keeps(0, "is above setting 5 at the degree 500.");
        ThawPoints x = differing(0);
        x.set(5, 0);
        dueReason(x, 1, 0);
        ThawPoints y = differing(1);
        y.set(5, 0);
        dueReason(y, 1, 6);
        check.due("overlap", y.overlap(0, 1, 500), 1);
    }

    /** The first one creeps by 60 before its paper and by 40 and 41 behind it, all since it was measured. */
    private static void termOverlapGreatestSetting() {
        check.keeps(0, "is above setting 5 at the degree 500.");
        ThawPoints x = Made.with(2);
        x.set(6, 100);
        x.set(5, 100);
        Made.fix(x, 0);
        Made.creep(x, 60);
        x.paper(0);
        x.pass(1);
        Made.creep(x, 30);
        Made.fix(x, 1);
        check.due("overlap", x.overlap(0, 1, 500), 100);
        dueReason(x, 1, 0);
        Made.creep(x, 4);
        Made.fix(x, 1);
        check.due("overlap a year later", x.overlap(0, 1, 500), 101);
        check.due("the other paper is valid", x.thermometer(0, 6), 1);
        dueReason(x, 1, 6);
    }

    private static void dueAt500(int creep, int bath, int before, int here, int behind) {
        ThawPoints x = Made.with(2);
        x.set(6, 100);
        Made.fix(x, 0);
        Made.fix(x, 1);
        x.paper(0);
        Made.creep(x, creep);
        x.measure(1, bath);
        check.due("overlap at 499", x.overlap(0, 1, 499), before);
        check.due("overlap at 500", x.overlap(0, 1, 500), here);
        check.due("overlap at 501", x.overlap(0, 1, 501), behind);
        x.set(5, here - 1);
        dueReason(x, 1, 6);
        x.set(5, here);
        dueReason(x, 1, 0);
    }

    private static void termOverlapAt500() {
        check.keeps(0, "is above setting 5 at the degree 500.");
        dueAt500(46, 1, 24, 25, 25);
        dueAt500(31, 0, 16, 16, 15);
    }

    private static void termOverlapWithSome() {
        check.keeps(0, "6: the overlap with some thermometer of its batch that has a valid paper");
        for (int one = 0; one < 6; one++) {
            for (int other = 0; other < 6; other++) {
                if (other != one) {
                    dueWithSome(one, other);
                }
            }
        }
    }

    private static void dueWithSome(int one, int other) {
        ThawPoints x = Made.with(6);
        x.set(6, 100);
        Made.fix(x, other);
        x.paper(other);
        Made.creep(x, 10);
        for (int number = 0; number < 6; number++) {
            if (number != other) {
                Made.fix(x, number);
            }
        }
        dueReason(x, one, 6);
        x.set(6, 9);
        dueReason(x, one, 0);
        for (int number = 0; number < 6; number++) {
            if (number != other && number != one) {
                check.due("paper(" + number + ")", x.paper(number) > 1 ? 1 : 0, 1);
            }
        }
        dueReason(x, one, 0);
        x.set(6, 10);
        dueReason(x, one, 6);
    }

    private static void termOverlapOfBatch() {
        check.keeps(0, "6: the overlap with some thermometer of its batch that has a valid paper");
        for (int batch = 0; batch < 4; batch++) {
            ThawPoints x = new ThawPoints();
            x.set(6, 100);
            x.make(0, 0, batch);
            for (int other = 0; other < 4; other++) {
                x.make(0, 0, other);
            }
            Made.fix(x, 0);
            x.paper(0);
            x.set(batch, 60);
            x.pass(1);
            for (int other = 0; other < 4; other++) {
                Made.fix(x, 1 + other);
                dueReason(x, 1 + other, other == batch ? 6 : 0);
            }
        }
    }

    private static void termOverlapWithValid() {
        check.keeps(0, "6: the overlap with some thermometer of its batch that has a valid paper");
        ThawPoints x = differing(60);
        dueReason(x, 1, 6);
        x.set(6, 60);
        dueReason(x, 1, 6);
        x.set(6, 59);
        dueReason(x, 1, 0);
        x.set(6, 60);
        x.forget(0, 0);
        dueReason(x, 1, 0);
        x.undo();
        x.breakOne(0);
        dueReason(x, 0, 0);
        ThawPoints y = Made.with(2);
        Made.fix(y, 0);
        Made.creep(y, 60);
        Made.fix(y, 1);
        check.due("overlap with one without a paper", y.overlap(0, 1, 500), 60);
        dueReason(y, 1, 0);
    }

    private static void termFirstReason() {
        check.keeps(0, "It cannot get one for the first of these reasons that applies:");
        ThawPoints x = differing(60);
        x.set(4, 0);
        dueReason(x, 0, 4);
        x.set(4, 1);
        dueReason(x, 0, 5);
        x.forget(0, 0);
        dueReason(x, 0, 3);
        x.undo();
        x.forget(0, 1000);
        x.set(4, 0);
        dueReason(x, 0, 3);

        ThawPoints y = differing(60);
        dueReason(y, 1, 6);
        y.forget(1, 0);
        dueReason(y, 1, 3);
        y.undo();
        y.set(3, 0);
        y.pass(3);
        dueReason(y, 1, 4);
        y.set(4, 3);
        dueReason(y, 1, 6);
        y.set(5, 60);
        y.paper(1);
        y.set(5, 0);
        dueReason(y, 1, 5);
        dueReason(y, 0, 4);
        y.set(4, 4);
        dueReason(y, 0, 5);
    }

    private static void termVoid() {
        check.keeps(0, "A paper is void, if the thermometer has crept by more than setting 6 since;"
            + " otherwise it is valid.");
        for (int creep = 9; creep <= 11; creep++) {
            ThawPoints x = Made.papered();
            check.due("valid at once", x.thermometer(0, 6), 1);
            Made.creep(x, creep);
            check.due("valid when crept by " + creep, x.thermometer(0, 6), creep <= 10 ? 1 : 0);
            check.due("valid papers", x.count(3), creep <= 10 ? 1 : 0);
            check.due("its seal", x.thermometer(0, 5), 1);
        }
        check.due("valid without a paper", Made.pointed(0, 1000).thermometer(0, 6), 0);
    }

    private static void termVoidLeastAndGreatest() {
        check.keeps(0, "A paper is void, if the thermometer has crept by more than setting 6 since;"
            + " otherwise it is valid.");
        ThawPoints x = Made.papered();
        x.set(6, 0);
        check.due("valid when crept by 0", x.thermometer(0, 6), 1);
        x.pass(20);
        check.due("valid when old, but not crept", x.thermometer(0, 6), 1);
        x.set(3, 22);
        x.pass(1);
        check.due("crept", x.thermometer(0, 2), 1);
        check.due("valid when crept by 1", x.thermometer(0, 6), 0);
        ThawPoints y = Made.papered();
        y.set(6, 100);
        Made.creep(y, 60);
        y.pass(1);
        Made.creep(y, 30);
        check.due("crept", y.thermometer(0, 2), 100);
        check.due("valid when crept by 100", y.thermometer(0, 6), 1);
        Made.creep(y, 4);
        check.due("crept a year later", y.thermometer(0, 2), 101);
        check.due("valid when crept by 101", y.thermometer(0, 6), 0);
    }

    private static void termVoidSince() {
        check.keeps(0, "crept by more than setting 6 since");
        ThawPoints x = Made.with(1);
        x.set(6, 0);
        Made.creep(x, 60);
        Made.fix(x, 0);
        x.paper(0);
        check.due("valid when crept before", x.thermometer(0, 6), 1);
        check.due("valid papers", x.count(3), 1);
        x.pass(1);
        check.due("void when crept behind", x.thermometer(0, 6), 0);
        x.set(6, 29);
        check.due("void with one less", x.thermometer(0, 6), 0);
        x.set(6, 30);
        check.due("valid with as much", x.thermometer(0, 6), 1);
    }

    private static void termNewPaper() {
        check.keeps(0, "A new paper takes the place of a void one.");
        ThawPoints x = Made.papered();
        Made.creep(x, 11);
        check.due("new paper", x.paper(0), 2);
        check.due("its seal", x.thermometer(0, 5), 2);
        check.due("valid papers", x.count(3), 1);
        check.due("papers so far", x.count(4), 2);
        check.due("valid", x.thermometer(0, 6), 1);
        x.set(6, 0);
        check.due("valid with nothing crept since", x.thermometer(0, 6), 1);
        check.noState(x, "a third paper", () -> x.paper(0));
        x.pass(1);
        check.due("the third paper", x.paper(0), 3);
    }

    private static void promise9Thermometer() {
        check.keeps(9, "thermometer: its number");
        check.keeps(9, "Throws IndexOutOfBoundsException if there is no such thermometer");
        check.allowsIndex("paper of one", () -> Made.pointed(0, 1000), 0, 0, ThawPoints::paper);
        check.allowsIndex("paper of six", EdgesPapersTest::sixFixed, 0, 5, ThawPoints::paper);
        ThawPoints x = new ThawPoints();
        check.noIndex(x, "paper(0) of none", () -> x.paper(0));
    }

    private static ThawPoints sixFixed() {
        ThawPoints x = Made.with(6);
        for (int number = 0; number < 6; number++) {
            Made.fix(x, number);
        }
        return x;
    }

    private static void promise9Seal() {
        check.keeps(9, "Returns the seal.");
        ThawPoints x = sixFixed();
        for (int seal = 1; seal <= 6; seal++) {
            check.due("paper", x.paper(seal - 1), seal);
            check.due("its seal", x.thermometer(seal - 1, 5), seal);
        }
    }

    private static void promise9Refused() {
        check.keeps(9, "Throws IllegalStateException if it cannot get one");
        ThawPoints x = Made.with(1);
        check.noState(x, "paper for the reason 3", () -> x.paper(0));
        Made.fix(x, 0);
        x.pass(3);
        check.noState(x, "paper for the reason 4", () -> x.paper(0));
        Made.fix(x, 0);
        x.paper(0);
        check.noState(x, "paper for the reason 5", () -> x.paper(0));
        ThawPoints y = differing(60);
        check.noState(y, "paper for the reason 6", () -> y.paper(1));
        check.due("papers so far", y.count(4), 1);
        y.set(5, 60);
        check.due("the next seal, none was lost", y.paper(1), 2);
    }

    private static void promise9Undoable() {
        check.keeps(9, "Gives a thermometer a paper. Undoable.");
        ThawPoints x = new ThawPoints();
        Check.doWork(x, "m0,0/3;c0:0;c0:1");
        x.paper(0);
        check.due("saved states", x.count(17), 2);
        check.due("undo", x.undo(), 1);
        check.due("seal after undo", x.thermometer(0, 5), -1);
        check.due("papers so far after undo", x.count(4), 0);
        check.due("paper after undo", x.paper(0), 1);
        Made.creep(x, 11);
        check.due("new paper", x.paper(0), 2);
        x.undo();
        check.due("the void one after undo", x.thermometer(0, 5), 1);
        check.due("it is void", x.thermometer(0, 6), 0);
        check.due("papers so far then", x.count(4), 1);
    }
}
