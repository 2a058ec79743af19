/** The edges that the document names for texts: terms, promises 10 to 14. */
public final class EdgesTextsTest {
    private static final Check check = new Check("EdgesTextsTest");
    private static final String FULL = "y1;y1;y1;y1;y1;y1;y1;y1;y1;y1;y1;y1;y1;y1;y1;y1;y1;y1;y1;y20";

    public static void main(String[] args) {
        termSixty();
        termParts();
        termMake();
        termMeasure();
        termYears();
        termPaper();
        termBath();
        termLeadingZero();
        termBelowZero();
        termSyntaxError();
        termOfAnyLength();
        promise10Code();
        promise10Length();
        promise10Full();
        promise11Length();
        promise12First();
        promise12Length();
        promise13Incomplete();
        promise13Parts();
        promise13UpToTheFirst();
        promise13StoppedPart();
        promise13Clears();
        promise13Undoable();
        promise13LatestStop();
        promise14What();
        promise14Number();
        promise14NoThermometer();
        promise14Six();
        promise14Points();
        promise14Papers();
        promise14None();
        check.end();
    }

    /** The first error of a text; the text is longer than this, or it begins works. */
    private static void dueError(String text, int error) {
        ThawPoints x = new ThawPoints();
        Check.write(x, text);
        check.due("firstError of " + text, x.firstError(), error);
    }

    private static void dueGood(String... texts) {
        for (String text : texts) {
            dueError(text, text.length());
        }
    }

    /** The last character of each text is its first error. */
    private static void dueBadAtLast(String... texts) {
        for (String text : texts) {
            dueError(text, text.length() - 1);
        }
    }

    private static void dueComplete(String... texts) {
        for (String text : texts) {
            ThawPoints x = Made.with(6);
            Check.write(x, text);
            x.work();
            check.due("saved states with " + text, x.count(17), 6);
            check.due("buffer behind " + text, x.clearBuffer(), 0);
        }
    }

    private static void dueIncomplete(String... texts) {
        for (String text : texts) {
            ThawPoints x = Made.with(1);
            Check.write(x, text);
            check.noArgument(x, "work of " + text, () -> x.work());
            check.due("length of " + text, x.clearBuffer(), text.length());
        }
    }

    private static void termSixty() {
        check.keeps(0, "The buffer has at most 60 characters.");
        ThawPoints x = new ThawPoints();
        Check.write(x, FULL);
        check.due("firstError of sixty", x.firstError(), 60);
        check.noState(x, "append to sixty", () -> x.append(';'));
        check.due("work of sixty", x.work(), 20);
        check.due("year then", x.count(0), 39);
        check.due("append to none", x.append(';'), 1);
    }

    private static void termParts() {
        check.keeps(0, "Works as a text are one or more parts with \";\" between them:");
        dueIncomplete("", "y1;", "p0;c0:0;");
        dueBadAtLast(";", "y1;;", "y1;y1;;", "y1y", "y1,", "p0p", "c0:0c", "m0,0/0m", "b0=0b", "b0=0:", "y20;;");
        dueComplete("y1", "y1;y1", FULL);
        dueGood("", "y1;", "y1;y", FULL);
    }

    private static void termMake() {
        check.keeps(0, "\"m\", a zero, \",\", a gain, both -50 to 50, \"/\", and a batch, 0 to 3 (a thermometer is made);");
        dueGood("m", "m-", "m-5", "m-50", "m50", "m49", "m0", "m0,-50", "m0,50", "m0,0/", "m0,0/0", "m0,0/3");
        dueBadAtLast("m-51", "m51", "m-60", "m60", "m500", "m-500", "m0,-51", "m0,51", "m0,500", "m0,0/4", "m0,0/9",
            "m0,0/-", "m0,0/30", "m,", "m-,", "m0/", "m0,/", "m0,-/", "m0;", "m0,0;", "m0,0,", "m0,0/;", "M", "m+", "m/");
        dueIncomplete("m", "m-", "m0", "m0,", "m0,-", "m0,0", "m0,0/");
        dueComplete("m-50,-50/0", "m50,50/3", "m-1,1/2", "m0,0/1");
        int[][] limits = {{-50, -50, 0}, {50, 50, 3}, {-49, 49, 1}, {9, -9, 2}, {-10, 10, 0}};
        for (int[] made : limits) {
            ThawPoints x = new ThawPoints();
            check.due("work", Check.doWork(x, "m" + made[0] + "," + made[1] + "/" + made[2]), 1);
            check.due("zero", x.reads(0, 0), 10000 + made[0]);
            check.due("gain", x.reads(0, 1000), 10000 + 1000 + made[1] + made[0]);
            check.due("batch", x.thermometer(0, 0), made[2]);
        }
    }

    private static void termMeasure() {
        check.keeps(0, "\"c\", a thermometer, 0 to 5, \":\", and a bath, 0 to 3 (it is measured);");
        dueGood("c", "c0", "c5", "c5:", "c0:0", "c5:3");
        dueBadAtLast("c6", "c9", "c-", "c:", "c10", "c55", "c0:4", "c0:9", "c0:-", "c0:;", "c0;", "c0,", "c0:00", "c0:10",
            "C");
        dueIncomplete("c", "c0", "c0:");
        dueComplete("c0:0", "c5:3");
        ThawPoints x = Made.with(6);
        check.due("work", Check.doWork(x, "c5:3;c0:0"), 2);
        check.due("the point of 5", x.point(5, 0, 1), 9900);
        check.due("the point of 0", x.point(0, 0, 1), 10000);
        check.due("points of all", x.count(2), 2);
    }

    private static void termYears() {
        check.keeps(0, "\"y\" and years, 1 to 20;");
        dueGood("y", "y1", "y2", "y9", "y10", "y19", "y20");
        dueBadAtLast("y0", "y21", "y30", "y99", "y100", "y200", "y-", "y;", "y,", "Y");
        dueIncomplete("y");
        for (int years = 1; years <= 20; years++) {
            ThawPoints x = new ThawPoints();
            check.due("work of y" + years, Check.doWork(x, "y" + years), 1);
            check.due("year", x.count(0), years);
        }
    }

    private static void termPaper() {
        check.keeps(0, "\"p\" and a thermometer (it gets a paper);");
        dueGood("p", "p0", "p5", "p5;");
        dueBadAtLast("p6", "p9", "p-", "p;", "p10", "p50", "p0:", "p00", "P");
        dueIncomplete("p");
        dueComplete("p0", "p5");
        ThawPoints x = Made.with(6);
        Made.fix(x, 5);
        check.due("work of p5", Check.doWork(x, "p5"), 1);
        check.due("its seal", x.thermometer(5, 5), 1);
    }

    private static void termBath() {
        check.keeps(0, "or \"b\", a bath, \"=\", and a degree, -400 to 1500;");
        dueGood("b", "b0", "b3", "b3=", "b0=-", "b0=-4", "b0=-40", "b0=-400", "b0=-399", "b0=-99", "b0=1", "b0=15", "b0=150",
            "b0=1500", "b0=1499", "b0=999", "b0=16", "b0=160", "b0=151", "b0=0");
        dueBadAtLast("b4", "b9", "b-", "b=", "b00", "b10", "b0:", "b0;", "b0=;", "b0=-;", "b0=-401", "b0=-410", "b0=-500",
            "b0=-4000", "b0=1501", "b0=1510", "b0=1600", "b0=2000", "b0=9999", "b0=15000", "b0=-1000", "B");
        dueIncomplete("b", "b0", "b0=", "b0=-");
        for (int degree : new int[] {-400, -399, -100, -10, -9, -1, 0, 1, 9, 10, 99, 100, 999, 1000, 1499, 1500}) {
            for (int bath = 0; bath < 4; bath++) {
                ThawPoints x = new ThawPoints();
                check.due("work of b" + bath + "=" + degree, Check.doWork(x, "b" + bath + "=" + degree), 1);
                check.due("degree", x.count(6 + bath), 10000 + degree);
            }
        }
    }

    private static void termLeadingZero() {
        check.keeps(0, "numbers without a leading zero,");
        dueBadAtLast("m00", "m01", "m0,00", "m0,05", "m0,0/00", "m0,0/01", "c00", "c01", "c0:00", "c0:03", "y0", "p00", "p05",
            "b00", "b01", "b0=00", "b0=01");
        dueError("y01", 1);
        dueError("m-05,0/0", 2);
        dueError("b0=-05", 4);
        dueGood("m10,20/0", "y10", "b0=1000", "b0=-100");
    }

    private static void termBelowZero() {
        check.keeps(0, "below 0 with \"-\" ahead, and 0 without it.");
        dueBadAtLast("m-0", "m0,-0", "b0=-0", "m--", "m0,--", "b0=--", "m+", "b0=+", "c-", "c0:-", "y-", "p-", "b-", "m0,0/-",
            "m5-", "b0=5-");
        dueGood("m-1,-1/0", "b0=-1", "m0,0/0", "b0=0");
        dueIncomplete("m-,0/0", "m-0,0/0", "b0=-0", "b0=-");
    }

    private static void termSyntaxError() {
        check.keeps(0, "The buffer is read from left to right; a character is a syntax error if no works as a text,"
            + " of any length, begin with the characters before it and this character.");
        dueError("x", 0);
        dueError("!y1", 0);
        dueError("~", 0);
        dueError("y1;x;y1", 3);
        dueError("y1;b0=00;;;", 7);
        dueError("yyy", 1);
        dueError("y21;y0", 2);
        dueError("m0,0/0;c0:0;y20;p0;b0=1501", 25);
        for (char first = 33; first < 127; first++) {
            boolean begins = "mcypb".indexOf(first) >= 0;
            dueError(String.valueOf(first), begins ? 1 : 0);
            dueError("y1;" + first, begins ? 4 : 3);
            dueError("y1" + first, first == ';' || first >= '0' && first <= '9' ? 3 : 2);
        }
    }

    private static void termOfAnyLength() {
        check.keeps(0, "of any length, begin with the characters before it and this character.");
        String nineteen = "y1;y1;y1;y1;y1;y1;y1;y1;y1;y1;y1;y1;y1;y1;y1;y1;y1;y1;y1;";
        dueGood(nineteen + "m-5", nineteen + "b0=", nineteen + "c5:", nineteen + "y2;", nineteen + "p0;");
        dueIncomplete(nineteen + "m-5", nineteen + "b0=", nineteen + "c5:", nineteen + "y2;", nineteen + "p0;", nineteen);
        dueBadAtLast(nineteen + "m-0", nineteen + "y21", nineteen + "c6", nineteen + ";", nineteen + "y1y");
    }

    private static void promise10Code() {
        check.keeps(10, "code: the character code, 33 to 126");
        check.keeps(10, "Throws IllegalArgumentException if code is not 33 to 126");
        check.allowsArgument("append", ThawPoints::new, 33, 126, ThawPoints::append);
        ThawPoints x = new ThawPoints();
        check.noArgument(x, "append(121 + 65536)", () -> x.append('y' + 65536));
        check.noArgument(x, "append(121 - 256)", () -> x.append('y' - 256));
        check.due("append(126)", x.append(126), 1);
        check.due("append(33)", x.append(33), 2);
        check.due("firstError of both", x.firstError(), 0);
    }

    private static void promise10Length() {
        check.keeps(10, "Appends a character to the buffer.");
        check.keeps(10, "Returns the new length of the buffer.");
        ThawPoints x = new ThawPoints();
        for (int length = 1; length <= 60; length++) {
            check.due("append", x.append('p'), length);
        }
        check.due("saved states", x.count(17), 0);
    }

    private static void promise10Full() {
        check.keeps(10, "Throws IllegalStateException if the buffer has 60 characters");
        ThawPoints x = new ThawPoints();
        Check.write(x, FULL.substring(1));
        check.due("append to 59", x.append('0'), 60);
        check.noState(x, "append(33) to 60", () -> x.append(33));
        check.noState(x, "append(126) to 60", () -> x.append(126));
        check.noArgument(x, "append(32) to 60", () -> x.append(32));
        check.noArgument(x, "append(127) to 60", () -> x.append(127));
        check.due("length then", x.clearBuffer(), 60);
        check.due("append to a cleared one", x.append('y'), 1);
    }

    private static void promise11Length() {
        check.keeps(11, "Clears the buffer.");
        check.keeps(11, "Returns the length that it had.");
        ThawPoints x = new ThawPoints();
        check.due("clearBuffer of none", x.clearBuffer(), 0);
        x.append('~');
        check.due("clearBuffer of one", x.clearBuffer(), 1);
        check.due("clearBuffer of none again", x.clearBuffer(), 0);
        Check.write(x, FULL);
        check.due("clearBuffer of sixty", x.clearBuffer(), 60);
        check.due("firstError then", x.firstError(), 0);
        check.noArgument(x, "work then", () -> x.work());
        check.due("saved states", x.count(17), 0);
    }

    private static void promise12First() {
        check.keeps(12, "Finds the first syntax error of the buffer.");
        check.keeps(12, "Returns the index of the first character that is a syntax error;");
        dueError("=y1", 0);
        dueError("y0;y0", 1);
        dueError(FULL.substring(0, 59) + "1", 59);
        dueError(FULL.substring(0, 59) + ":", 59);
        dueError(FULL.substring(0, 58) + ":0", 58);
        dueError(":" + FULL.substring(1), 0);
    }

    private static void promise12Length() {
        check.keeps(12, "the length of the buffer if there is none.");
        for (int length = 0; length <= 60; length++) {
            dueError(FULL.substring(0, length), length);
        }
        ThawPoints x = new ThawPoints();
        Check.write(x, "y2");
        check.due("firstError", x.firstError(), 2);
        x.append('1');
        check.due("firstError with one more", x.firstError(), 2);
        check.due("saved states", x.count(17), 0);
        check.due("length then", x.clearBuffer(), 3);
    }

    private static void promise13Incomplete() {
        check.keeps(13, "Throws IllegalArgumentException if the buffer is not complete works as a text (the buffer stays)");
        String whole = "m-50,50/3;c0:0;c0:1;p0;y20;b3=-400;b0=1500;m1,-1/0";
        for (int length = 0; length <= whole.length(); length++) {
            ThawPoints x = new ThawPoints();
            String text = whole.substring(0, length);
            Check.write(x, text);
            boolean complete = Grammar.isComplete(text);
            if (complete) {
                check.due("work of " + text, x.work(), text.split(";").length);
            } else {
                check.noArgument(x, "work of " + text, () -> x.work());
            }
            check.due("length then", x.clearBuffer(), complete ? 0 : length);
        }
        ThawPoints x = new ThawPoints();
        Check.write(x, "y1");
        x.work();
        check.noArgument(x, "work of the text that is done", () -> x.work());
        check.due("year then", x.count(0), 1);
    }

    private static void promise13Parts() {
        check.keeps(13, "Returns how many parts are done.");
        ThawPoints x = new ThawPoints();
        check.due("work with none done", Check.doWork(x, "p0;y1;y1"), 0);
        check.due("work with one done", Check.doWork(x, "y1"), 1);
        check.due("work with one of two done", Check.doWork(x, "y1;p0"), 1);
        check.due("work with two done", Check.doWork(x, "y1;y1"), 2);
        check.due("work with nineteen of twenty done", Check.doWork(x, FULL.substring(0, 57) + "p0"), 19);
        check.due("work with twenty done", Check.doWork(x, FULL), 20);
        check.due("year then", x.count(0), 1 + 1 + 2 + 19 + 39);
    }

    private static void promise13UpToTheFirst() {
        check.keeps(13, "Does what the buffer tells, part by part, up to the first part for which the method would throw an"
            + " exception, and clears the buffer.");
        ThawPoints x = new ThawPoints();
        check.due("work", Check.doWork(x, "y1;b2=7;m0,0/0;p0;y1;b2=8;m0,0/0"), 3);
        check.due("year", x.count(0), 1);
        check.due("bath 2", x.count(8), 10007);
        check.due("thermometers", x.count(1), 1);
        check.due("work of parts that need the ones before", Check.doWork(x, "m0,0/1;c1:0;c1:1;p1;y1;c1:1"), 6);
        check.due("points of the one that is made", x.thermometer(1, 3), 2);
        check.due("its seal", x.thermometer(1, 5), 1);
        check.due("the year of its second point", x.point(1, 1, 2), 2);
    }

    private static void promise13StoppedPart() {
        check.keeps(13, "up to the first part for which the method would throw an exception,");
        ThawPoints x = Made.pointed(100, 130);
        Made.creep(x, 30);
        x.set(3, 0);
        dueStop(x, "b2=100;c0:2;y1", 1, 2);
        check.due("its own point stays", x.point(0, 0, 0), 10100);
        check.due("the year of its own point", x.point(0, 0, 2), 0);
        check.due("points", x.thermometer(0, 3), 2);
        dueStop(x, "b0=0;b1=1000;y1;c0:0;p0;y1", 4, 3);
        check.due("papers so far behind a stop", x.count(4), 0);
        check.due("the year behind a stop", x.count(0), 2);
        check.due("work then", Check.doWork(x, "c0:1;c0:0;p0"), 3);
        check.due("the next seal, none was lost", x.thermometer(0, 5), 1);
        dueStop(x, "p0;y1", 0, 5);
        check.due("the seal stays", x.thermometer(0, 5), 1);
        check.due("papers so far then", x.count(4), 1);
    }

    private static void promise13Clears() {
        check.keeps(13, "and clears the buffer.");
        ThawPoints x = new ThawPoints();
        Check.write(x, "p0");
        check.due("work with nothing done", x.work(), 0);
        check.due("length then", x.clearBuffer(), 0);
        Check.write(x, FULL);
        check.due("work with all done", x.work(), 20);
        check.due("length of it then", x.clearBuffer(), 0);
        Check.write(x, "y1;p0;y1");
        check.due("work with some done", x.work(), 1);
        check.due("length of that then", x.clearBuffer(), 0);
    }

    private static void promise13Undoable() {
        check.keeps(13, "Undoable, as one call, also if nothing is done.");
        ThawPoints x = new ThawPoints();
        Check.doWork(x, "y1;y1;m0,0/0;c0:0");
        check.due("saved states of four parts", x.count(17), 1);
        Check.doWork(x, "p0");
        check.due("saved states with nothing done", x.count(17), 2);
        check.due("undo of nothing", x.undo(), 1);
        check.due("year then", x.count(0), 2);
        check.due("undo of four parts", x.undo(), 0);
        check.due("year at last", x.count(0), 0);
        check.due("thermometers at last", x.count(1), 0);
        Check.write(x, "y1;");
        check.noArgument(x, "work that is refused", () -> x.work());
        check.due("saved states then", x.count(17), 0);
    }

    private static void promise13LatestStop() {
        check.keeps(13, "The latest stop is that of this call then, or none, if all are done.");
        ThawPoints x = new ThawPoints();
        dueStop(x, "y1;y1;p0", 2, 7);
        dueStop(x, "c0:0", 0, 7);
        Check.write(x, "p0;");
        check.noArgument(x, "work that is refused", () -> x.work());
        check.due("stopped(1) then", x.stopped(1), 7);
        check.due("work with all done", Check.doWork(x, "m0,0/0"), 1);
        check.due("stopped(0) then", x.stopped(0), -1);
        check.due("stopped(1) of all done", x.stopped(1), -1);
    }

    /** The text stops at this part, which is as many as are done. */
    private static void dueStop(ThawPoints x, String text, int part, int reason) {
        check.due("work of " + text, Check.doWork(x, text), part);
        check.due("stopped(0) of " + text, x.stopped(0), part);
        check.due("stopped(1) of " + text, x.stopped(1), reason);
    }

    private static void promise14What() {
        check.keeps(14, "Throws IllegalArgumentException if what is neither 0 nor 1");
        check.allowsArgument("stopped", ThawPoints::new, 0, 1, ThawPoints::stopped);
        check.allowsArgument("stopped with a stop", EdgesTextsTest::stopped, 0, 1, ThawPoints::stopped);
    }

    private static ThawPoints stopped() {
        ThawPoints x = new ThawPoints();
        Check.doWork(x, "y1;p0");
        return x;
    }

    private static void promise14Number() {
        check.keeps(14, "what: 0: the number of the part that stopped it, from 0;");
        ThawPoints x = new ThawPoints();
        dueStop(x, "p0", 0, 7);
        dueStop(x, "y1;p0", 1, 7);
        dueStop(x, FULL.substring(0, 57) + "p0", 19, 7);
        dueStop(x, FULL.substring(0, 54) + "p5;y20", 18, 7);
    }

    private static void promise14NoThermometer() {
        check.keeps(14, "7 if there is no such thermometer,");
        for (int made = 0; made < 6; made++) {
            ThawPoints x = Made.with(made);
            for (int number = made; number < 6; number++) {
                dueStop(x, "y1;c" + number + ":0", 1, 7);
                dueStop(x, "p" + number, 0, 7);
            }
            for (int number = 0; number < made; number++) {
                check.due("work with " + made, Check.doWork(x, "c" + number + ":0;c" + number + ":1;p" + number), 3);
            }
        }
    }

    private static void promise14Six() {
        check.keeps(14, "8 if there are 6");
        ThawPoints x = Made.with(5);
        check.due("work with five", Check.doWork(x, "m0,0/0"), 1);
        dueStop(x, "m0,0/0", 0, 8);
        dueStop(new ThawPoints(), "m0,0/0;m0,0/0;m0,0/0;m0,0/0;m0,0/0;m0,0/0;m0,0/0", 6, 8);
    }

    private static void promise14Points() {
        check.keeps(14, "1: the reason, 1 to 6,");
        ThawPoints x = Made.pointed(Made.tenDegrees());
        dueStop(x, "b2=1;c0:2", 1, 1);
        check.due("work of one of the ten", Check.doWork(x, "b2=900;c0:2"), 2);
        ThawPoints y = Made.pointed(100);
        Made.creep(y, 60);
        dueStop(y, "b2=40;c0:2;y1", 1, 2);
        dueStop(y, "b2=41;c0:2;y1", 1, 2);
        check.due("work next to it", Check.doWork(y, "b2=39;c0:2;y1"), 3);
    }

    private static void promise14Papers() {
        check.keeps(14, "1: the reason, 1 to 6,");
        ThawPoints x = Made.with(2);
        dueStop(x, "p0", 0, 3);
        dueStop(x, "c0:0;p0", 1, 3);
        dueStop(x, "c0:0;c0:1;y3;p0", 3, 4);
        dueStop(x, "c0:0;c0:1;p0;p0", 3, 5);
        x.set(6, 100);
        x.set(3, 60);
        dueStop(x, "y1;c1:0;c1:1;p1", 3, 6);
        x.set(5, 15);
        check.due("work with a greater setting", Check.doWork(x, "p1"), 1);
    }

    private static void promise14None() {
        check.keeps(14, "Tells of the latest stop of work().");
        check.keeps(14, "Returns the number; NONE if there is no stop.");
        ThawPoints x = new ThawPoints();
        check.due("stopped(0) at first", x.stopped(0), -1);
        check.due("stopped(1) at first", x.stopped(1), -1);
        Check.doWork(x, "p0");
        x.clearBuffer();
        x.pass(1);
        check.due("stopped(0) behind other calls", x.stopped(0), 0);
        check.due("stopped(1) behind other calls", x.stopped(1), 7);
        Check.doWork(x, "y1");
        check.due("stopped(0) with all done", x.stopped(0), -1);
        x.undo();
        check.due("stopped(0) after undo", x.stopped(0), 0);
        check.due("stopped(1) after undo", x.stopped(1), 7);
        x.undo();
        x.undo();
        check.due("stopped(0) after all undo", x.stopped(0), -1);
        check.due("stopped(1) after all undo", x.stopped(1), -1);
    }
}
