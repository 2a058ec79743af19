/** Objects as the tests of the edges need them. */
final class Made {
    private Made() {
    }

    /** So many thermometers of zero 0 and gain 0 in batch 3, which creeps by 0 at first. */
    static ThawPoints with(int thermometers) {
        ThawPoints x = new ThawPoints();
        for (int number = 0; number < thermometers; number++) {
            x.make(0, 0, 3);
        }
        return x;
    }

    /** One thermometer that reads what is, with points at these degrees, in this order. */
    static ThawPoints pointed(int... degrees) {
        ThawPoints x = with(1);
        for (int degree : degrees) {
            measure(x, 0, degree);
        }
        return x;
    }

    /** Measures a thermometer in the bath 2, at this degree. */
    static int measure(ThawPoints x, int thermometer, int degree) {
        x.bath(2, degree);
        return x.measure(thermometer, 2);
    }

    /** A year in which batch 3 creeps by this, if the thermometers that count are in their first year. */
    static void creep(ThawPoints x, int creep) {
        x.set(3, creep);
        x.pass(1);
    }

    /** Measures a thermometer at the fixed points. */
    static void fix(ThawPoints x, int thermometer) {
        measure(x, thermometer, 0);
        measure(x, thermometer, 1000);
    }

    /** One thermometer of batch 3 with points at 0 and 1000 and the paper of seal 1. */
    static ThawPoints papered() {
        ThawPoints x = with(1);
        fix(x, 0);
        x.paper(0);
        return x;
    }

    static int[] tenDegrees() {
        return new int[] {0, 100, 200, 300, 400, 500, 600, 700, 800, 900};
    }
}
