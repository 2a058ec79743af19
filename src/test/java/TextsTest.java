/** Promises 10 to 14: append, clearBuffer, firstError, work, stopped. */
public final class TextsTest {
    private static final Check check = new Check("TextsTest");

    public static void main(String[] args) {
        promise10Append();
        promise11ClearBuffer();
        promise12FirstError();
        promise12Numbers();
        promise13Work();
        promise13WrongWorks();
        promise14Stopped();
        check.end();
    }

    private static void promise10Append() {
        ThawPoints x = new ThawPoints();
        check.noArgument(x, "append(32)", () -> x.append(32));
        check.noArgument(x, "append(127)", () -> x.append(127));
        check.noArgument(x, "append(-1)", () -> x.append(-1));
        check.noArgument(x, "append(65536 + 50)", () -> x.append(65536 + 50));
        check.due("append(33)", x.append(33), 1);
        check.due("append(126)", x.append(126), 2);
        for (int length = 3; length <= 60; length++) {
            check.due("append to " + length, x.append('1'), length);
        }
        check.noState(x, "append to 61", () -> x.append('1'));
        check.noArgument(x, "append of a wrong code to 61", () -> x.append(32));
        check.due("append is not undoable", x.count(17), 0);
        check.due("length then", x.clearBuffer(), 60);
    }

    private static void promise11ClearBuffer() {
        ThawPoints x = new ThawPoints();
        Check.write(x, "y20;");
        long before = x.digest();
        check.due("clearBuffer of four", x.clearBuffer(), 4);
        check.due("clearBuffer of none", x.clearBuffer(), 0);
        check.due("clearBuffer is not undoable", x.count(17), 0);
        check.due("append after it", x.append('y'), 1);
        Check.write(x, "20;");
        check.due("digest of the same text", x.digest(), before);
        x.clearBuffer();
        Check.write(x, "y21;");
        check.due("digest of another text differs", x.digest() != before ? 1 : 0, 1);
    }

    private static void dueError(String text, int error) {
        ThawPoints x = new ThawPoints();
        Check.write(x, text);
        check.due("firstError of " + text, x.firstError(), error);
        check.due("firstError of " + text + " again", x.firstError(), error);
        check.due("length after firstError", x.clearBuffer(), text.length());
    }

    private static void promise12FirstError() {
        String[] good = {"", "m", "m0,0/3", "m-50,50/0", "m5", "m-", "m1,", "m1,-", "m1,-1/", "c", "c5", "c5:", "c5:3",
            "y", "y1", "y20", "p", "p5", "b", "b3", "b3=", "b3=-", "b3=-400", "b0=1500", "y1;", "y1;p0;",
            "m0,0/0;c0:0;y20;p0;b0=0", "y1;y1;y1;y1;y1;y1;y1;y1;y1;y1;y1;y1;y1;y1;y1;y1;y1;y1;y1;y1;"};
        for (String text : good) {
            dueError(text, text.length());
        }
        String[] bad = {"x", ";", "M", "0", "m,", "m:", "m5:", "m0,0:", "m0,0/-", "m0,0/00", "c-", "c:", "c00", "c0=",
            "c0:-", "c0:00", "y-", "y1,", "p;", "p-", "p00", "b-", "b0:", "b0=;", "y1y", "y1;;", "p0,", "y1;y1;x",
            "m0;", "m0,0;", "c0;", "b0;", "y;", "m0,0/0/", "c0:0:", "m+", "y1;;"};
        for (String text : bad) {
            dueError(text, text.length() - 1);
        }
        dueError("yyy", 1);
        dueError("y1;b0=00;;;", 7);
        dueError("xm0,0/0", 0);
        check.due("firstError is not undoable", new ThawPoints().count(17), 0);
    }

    private static void dueNumber(String before, int number, boolean good) {
        String text = before + number;
        ThawPoints x = new ThawPoints();
        Check.write(x, text);
        check.due("firstError of " + text, x.firstError() == text.length() ? 1 : 0, good ? 1 : 0);
    }

    private static void promise12Numbers() {
        for (int number = -120; number <= 120; number++) {
            boolean trim = number >= -50 && number <= 50;
            dueNumber("m", number, trim);
            dueNumber("m1,", number, trim);
            dueNumber("m1,1/", number, number >= 0 && number <= 3);
            dueNumber("c", number, number >= 0 && number <= 5);
            dueNumber("c1:", number, number >= 0 && number <= 3);
            dueNumber("y", number, number >= 1 && number <= 20);
            dueNumber("p", number, number >= 0 && number <= 5);
            dueNumber("b", number, number >= 0 && number <= 3);
            dueNumber("b1=", number, true);
        }
        for (int number = -4500; number <= 16000; number++) {
            if (number < -300 || number > 1400) {
                dueNumber("b1=", number, number >= -400 && number <= 1500);
            }
        }
        dueError("m-0", 2);
        dueError("m00", 2);
        dueError("m0,-0", 4);
        dueError("y0", 1);
        dueError("b0=-0", 4);
        dueError("b0=01", 4);
        dueError("b0=--1", 4);
    }

    private static void promise13Work() {
        ThawPoints x = new ThawPoints();
        check.due("work of all kinds", Check.doWork(x, "m-5,10/2;c0:0;c0:1;p0;y3;b3=-400;c0:3"), 7);
        check.due("one saved state", x.count(17), 1);
        check.due("buffer after work", x.clearBuffer(), 0);
        check.due("stop after work", x.stopped(0), -1);
        check.due("year", x.count(0), 3);
        check.due("batch", x.thermometer(0, 0), 2);
        check.due("reads", x.reads(0, 1000), 10000 + 1010 - 5 + 36);
        check.due("seal", x.thermometer(0, 5), 1);
        check.due("points", x.thermometer(0, 3), 3);
        check.due("bath 3", x.count(9), 9600);
        check.due("degree of the first point", x.point(0, 0, 1), 9600);
        check.due("year of the first point", x.point(0, 0, 2), 3);
        check.due("undo of work", x.undo(), 0);
        check.due("thermometers after undo", x.count(1), 0);
        check.due("year after undo", x.count(0), 0);
        check.due("bath 3 after undo", x.count(9), 9900);
        check.due("buffer after undo", x.clearBuffer(), 0);

        check.due("work that stops", Check.doWork(x, "m0,0/0;y20;p1;y20"), 2);
        check.due("year after a stop", x.count(0), 20);
        check.due("buffer after a stop", x.clearBuffer(), 0);
        check.due("work with nothing done", Check.doWork(x, "p1"), 0);
        check.due("saved also then", x.count(17), 2);
        check.due("work of one part", Check.doWork(x, "b0=1500"), 1);
        check.due("bath 0", x.count(6), 11500);
        check.due("work of years", Check.doWork(x, "y1;y1;y1;y1;y1;y1;y1;y1;y1;y1;y1;y1;y1;y1;y1;y1;y1;y1;y1;y1"), 20);
        check.due("year then", x.count(0), 40);
        check.due("work of numbers with a zero", Check.doWork(x, "m10,-50/0;b2=-100;b3=1000"), 3);
        check.due("reads of it", x.reads(1, 0), 10010);
        check.due("bath 2", x.count(8), 9900);
        check.due("bath 3", x.count(9), 11000);
    }

    private static void promise13WrongWorks() {
        ThawPoints x = new ThawPoints();
        x.make(0, 0, 0);
        check.noArgument(x, "work of none", () -> x.work());
        String[] texts = {"y", "y1;", "m0,0/", "m0,0", "c0:", "c0", "b0=", "b0=-", "m-", "y1;p", "x", "y1x", "y1;;y1", "y21",
            "y1;y1;y1;y1;y1;y1;y1;y1;y1;y1;y1;y1;y1;y1;y1;y1;y1;y1;y1;y1;"};
        for (String text : texts) {
            Check.write(x, text);
            check.noArgument(x, "work of " + text, () -> x.work());
            check.due("the buffer stays", x.clearBuffer(), text.length());
        }
        check.due("nothing is saved", x.count(17), 1);
        Check.write(x, "y2");
        check.noArgument(x, "append(32) in a text", () -> x.append(32));
        x.append('0');
        check.due("work after wrong ones", x.work(), 1);
        check.due("year then", x.count(0), 20);
    }

    private static void dueStop(ThawPoints x, String text, int part, int reason) {
        check.due("work of " + text, Check.doWork(x, text), part);
        check.due("stopped(0) of " + text, x.stopped(0), part);
        check.due("stopped(1) of " + text, x.stopped(1), reason);
    }

    private static void promise14Stopped() {
        ThawPoints x = new ThawPoints();
        check.noArgument(x, "stopped(2)", () -> x.stopped(2));
        check.noArgument(x, "stopped(-1)", () -> x.stopped(-1));
        dueStop(x, "c0:0", 0, 7);
        dueStop(x, "y1;p5", 1, 7);
        dueStop(x, "m0,0/0;m0,0/0;p1", 2, 3);
        dueStop(x, "m0,0/0;m0,0/0;m0,0/0;m0,0/0;m0,0/0", 4, 8);
        check.due("undo of the last", x.undo(), 3);
        check.due("stopped(0) after undo", x.stopped(0), 2);
        check.due("stopped(1) after undo", x.stopped(1), 3);
        dueStop(x, "c0:0;c0:1;p0;p0", 3, 5);
        dueStop(x, "y3;p0", 1, 4);
        dueStop(x, "b2=12;c0:2;b3=-22;c0:3", 3, 2);
        check.due("a call between", x.pass(1), 5);
        check.due("stopped(0) stays", x.stopped(0), 3);
        check.due("work without a stop", Check.doWork(x, "y1"), 1);
        check.due("stopped(0) without a stop", x.stopped(0), -1);
        check.due("stopped(1) without a stop", x.stopped(1), -1);

        ThawPoints y = new ThawPoints();
        y.make(0, 0, 3);
        for (int number = 0; number < 10; number++) {
            y.bath(2, 100 * number);
            y.measure(0, 2);
        }
        y.bath(2, 950);
        dueStop(y, "y1;y1;c0:2", 2, 1);
        y.bath(2, 900);
        check.due("work of a point that it has", Check.doWork(y, "c0:2"), 1);

        ThawPoints z = new ThawPoints();
        z.make(0, 0, 3);
        z.make(0, 0, 3);
        z.set(6, 100);
        z.set(3, 60);
        dueStop(z, "c0:0;c0:1;p0;y1;c1:0;c1:1;p1", 6, 6);
    }
}
