/** Promises 23 to 28: whyNot, overlap, worstDegree, voidIn, validShare, digest. */
public final class OutlookTest {
    private static final Check check = new Check("OutlookTest");

    public static void main(String[] args) {
        promise23WhyNot();
        promise24Overlap();
        promise25WorstDegree();
        promise26VoidIn();
        promise27ValidShare();
        promise28Digest();
        check.end();
    }

    private static void promise23WhyNot() {
        ThawPoints x = new ThawPoints();
        check.noIndex(x, "whyNot(0, 0) without any", () -> x.whyNot(0, 0));
        x.make(0, -50, 3);
        check.noIndex(x, "whyNot(1, 0)", () -> x.whyNot(1, 0));
        check.noIndex(x, "whyNot(-1, 0)", () -> x.whyNot(-1, 0));
        check.noIndex(x, "whyNot(0, 4)", () -> x.whyNot(0, 4));
        check.noIndex(x, "whyNot(0, -1)", () -> x.whyNot(0, -1));
        check.due("whyNot(0, 0)", x.whyNot(0, 0), 0);
        x.measure(0, 0);
        check.due("whyNot(0, 0) again", x.whyNot(0, 0), 0);
        x.bath(2, 1);
        check.due("whyNot at the same reading, a greater degree", x.whyNot(0, 2), 2);
        x.bath(2, -1);
        check.due("whyNot at the next reading", x.whyNot(0, 2), 0);
        for (int number = 1; number < 10; number++) {
            x.bath(2, -10 * number);
            check.due("whyNot before ten", x.whyNot(0, 2), 0);
            x.measure(0, 2);
        }
        x.bath(2, 1);
        check.due("whyNot with ten, the first reason", x.whyNot(0, 2), 1);
        check.due("whyNot of one it has", x.whyNot(0, 0), 0);
        check.due("whyNot of another bath", x.whyNot(0, 1), 1);
        check.due("whyNot saves nothing", x.count(17), 6);
    }

    private static void promise24Overlap() {
        ThawPoints x = new ThawPoints();
        check.noIndex(x, "overlap(0, 0, 1501) without any", () -> x.overlap(0, 0, 1501));
        x.make(0, 0, 0);
        x.make(0, 0, 3);
        check.noIndex(x, "overlap(0, 2, 0)", () -> x.overlap(0, 2, 0));
        check.noIndex(x, "overlap(2, 0, 0)", () -> x.overlap(2, 0, 0));
        check.noIndex(x, "overlap(0, -1, 0)", () -> x.overlap(0, -1, 0));
        check.noIndex(x, "overlap(-1, 0, 0)", () -> x.overlap(-1, 0, 0));
        check.noArgument(x, "overlap(0, 1, 1501)", () -> x.overlap(0, 1, 1501));
        check.noArgument(x, "overlap(0, 1, -401)", () -> x.overlap(0, 1, -401));
        check.due("overlap without points", x.overlap(0, 1, 0), -1);
        x.measure(0, 0);
        x.measure(0, 1);
        x.measure(1, 0);
        check.due("overlap with one point", x.overlap(0, 1, 0), -1);
        check.due("overlap with one point, turned", x.overlap(1, 0, 0), -1);
        check.due("overlap of the same", x.overlap(0, 0, 0), 0);
        check.due("overlap of the same with one point", x.overlap(1, 1, 0), -1);
        x.measure(1, 1);
        check.due("overlap of twins", x.overlap(0, 1, 500), 0);
        x.pass(1);
        check.due("overlap then", x.overlap(0, 1, 500), 12);
        check.due("overlap then, turned", x.overlap(1, 0, 500), 12);
        x.measure(0, 0);
        check.due("overlap at 0", x.overlap(0, 1, 0), 0);
        check.due("overlap at 1000", x.overlap(0, 1, 1000), 12);
        check.due("overlap at -400", x.overlap(0, 1, -400), 5);
        check.due("overlap at 1500", x.overlap(0, 1, 1500), 18);
        check.due("overlap changes nothing", x.count(17), 6);
    }

    private static void promise25WorstDegree() {
        ThawPoints x = new ThawPoints();
        check.noIndex(x, "worstDegree(0, 0) without any", () -> x.worstDegree(0, 0));
        x.make(0, 0, 0);
        x.make(0, 0, 3);
        check.noIndex(x, "worstDegree(0, 2)", () -> x.worstDegree(0, 2));
        check.noIndex(x, "worstDegree(2, 0)", () -> x.worstDegree(2, 0));
        check.noIndex(x, "worstDegree(-1, 0)", () -> x.worstDegree(-1, 0));
        check.noIndex(x, "worstDegree(0, -1)", () -> x.worstDegree(0, -1));
        check.due("worstDegree without points", x.worstDegree(0, 1), -1);
        for (int number = 0; number < 2; number++) {
            x.measure(number, 0);
            check.due("worstDegree with one point", x.worstDegree(number, number), -1);
            x.measure(number, 1);
        }
        check.due("worstDegree of twins", x.worstDegree(0, 1), 9600);
        check.due("worstDegree of the same", x.worstDegree(1, 1), 9600);
        x.pass(1);
        check.due("worstDegree of several", x.worstDegree(0, 1), 9600);
        x.measure(0, 0);
        check.due("worstDegree at the upper end", x.worstDegree(0, 1), 11500);
        x.undo();
        x.measure(0, 1);
        check.due("worstDegree at the lower end", x.worstDegree(0, 1), 9600);
        x.measure(0, 0);
        check.due("worstDegree when measured", x.worstDegree(0, 1), 9600);
        x.set(0, 60);
        x.pass(1);
        x.measure(0, 0);
        x.measure(0, 1);
        x.bath(2, -100);
        x.undo();
        x.measure(1, 2);
        check.due("worstDegree of a straight pair", x.worstDegree(0, 1), 9600);

        ThawPoints y = new ThawPoints();
        y.set(0, 60);
        y.make(0, 0, 0);
        y.make(0, 0, 3);
        y.bath(2, 700);
        y.measure(0, 2);
        y.pass(1);
        for (int number = 0; number < 2; number++) {
            y.measure(number, 0);
            y.bath(2, 1400);
            y.measure(number, 2);
            y.bath(2, 1300);
            y.measure(number, 2);
        }
        check.due("overlap at 500", y.overlap(0, 1, 500), 46);
        check.due("overlap at 600", y.overlap(0, 1, 600), 56);
        check.due("overlap at 700", y.overlap(0, 1, 700), 54);
        check.due("worstDegree in the middle", y.worstDegree(0, 1), 10600);
        check.due("worstDegree in the middle, turned", y.worstDegree(1, 0), 10600);
    }

    private static void promise26VoidIn() {
        ThawPoints x = new ThawPoints();
        check.noIndex(x, "voidIn(0) without any", () -> x.voidIn(0));
        Check.doWork(x, "m0,0/0;m0,0/1;m0,0/3;c0:0;c0:1;c1:0;c1:1;c2:0;c2:1");
        check.noIndex(x, "voidIn(3)", () -> x.voidIn(3));
        check.noIndex(x, "voidIn(-1)", () -> x.voidIn(-1));
        check.due("voidIn without a paper", x.voidIn(0), -1);
        x.paper(0);
        x.paper(1);
        x.paper(2);
        check.due("voidIn of batch 0", x.voidIn(0), 1);
        check.due("voidIn of batch 1: 6, 9, 11", x.voidIn(1), 3);
        check.due("voidIn of batch 3", x.voidIn(2), -1);
        x.pass(1);
        check.due("voidIn when void", x.voidIn(0), 0);
        check.due("voidIn a year later", x.voidIn(1), 2);
        x.set(1, 24);
        check.due("voidIn with another creep", x.voidIn(1), 1);
        x.set(1, 6);
        x.set(6, 11);
        check.due("voidIn with another setting: 6, 9, 11, 12", x.voidIn(1), 3);
        x.set(6, 14);
        check.due("voidIn when it never is", x.voidIn(1), -1);
        x.set(6, 13);
        check.due("voidIn when the last tenth counts", x.voidIn(1), 5);
        voidInFifty();
    }

    /** With creep 60 a year from the age 30 to the age 59 brings 1, and none behind it brings any. */
    private static void voidInFifty() {
        ThawPoints x = new ThawPoints();
        x.set(0, 60);
        Check.doWork(x, "m0,0/0;y9;c0:0;c0:1;p0");
        x.set(6, 90);
        check.due("voidIn in 49 years", x.voidIn(0), 49);
        x.set(6, 91);
        check.due("voidIn in 50 years", x.voidIn(0), 50);
        x.set(6, 92);
        check.due("voidIn in 51 years", x.voidIn(0), -1);
        x.set(6, 0);
        Check.doWork(x, "y1;c0:0;c0:1;p0");
        check.due("second paper", x.thermometer(0, 5), 2);
        x.set(6, 86);
        check.due("voidIn in 50 years, the last that creeps", x.voidIn(0), 50);
        x.set(6, 87);
        check.due("voidIn with a setting that is never passed", x.voidIn(0), -1);
    }

    private static void promise27ValidShare() {
        ThawPoints x = new ThawPoints();
        check.dueShare("share without any", x.validShare(), 1.0);
        for (int number = 0; number < 6; number++) {
            x.make(0, 0, number < 3 ? 3 : 0);
            x.measure(number, 0);
            x.measure(number, 1);
            check.dueShare("share before paper " + number, x.validShare(), (double) number / (number + 1));
            x.paper(number);
            check.dueShare("share after paper " + number, x.validShare(), 1.0);
        }
        x.pass(1);
        check.dueShare("share in the next year", x.validShare(), 0.5);
        x.breakOne(0);
        check.dueShare("share of five", x.validShare(), 2.0 / 5);
        x.breakOne(0);
        x.breakOne(0);
        check.dueShare("share of none", x.validShare(), 0.0);
    }

    private static void promise28Digest() {
        ThawPoints x = new ThawPoints();
        check.due("digest when new", x.digest(), expectedDigest(x, ""));
        Check.write(x, "m1,~!");
        check.due("digest of a text", x.digest(), expectedDigest(x, "m1,~!"));
        x.clearBuffer();
        x.set(5, 100);
        for (int number = 0; number < 6; number++) {
            x.make(number, -number, number % 4);
            x.measure(number, 1);
            check.due("digest with one point", x.digest(), expectedDigest(x, ""));
            x.measure(number, 0);
            x.measure(number, 2);
            x.paper(number);
            check.due("digest with a paper", x.digest(), expectedDigest(x, ""));
            x.set(6, 10 + number);
            x.pass(1);
            check.due("digest in the next year", x.digest(), expectedDigest(x, ""));
        }
        Check.doWork(x, "y1;p5;p5");
        check.due("digest with a stop", x.digest(), expectedDigest(x, ""));
        check.due("digest changes nothing", x.digest(), expectedDigest(x, ""));
    }

    private static long mix(long hash, long value) {
        return 31 * hash + value;
    }

    private static long expectedDigest(ThawPoints x, String buffer) {
        long hash = 3907;
        for (int what = 0; what < 18; what++) {
            hash = mix(hash, x.count(what));
        }
        for (int one = 0; one < x.count(1); one++) {
            for (int what = 0; what < 9; what++) {
                hash = mix(hash, x.thermometer(one, what));
            }
            for (int place = 0; place < x.thermometer(one, 3); place++) {
                for (int what = 0; what < 4; what++) {
                    hash = mix(hash, x.point(one, place, what));
                }
            }
            hash = mix(hash, x.reads(one, 0));
            hash = mix(hash, x.reads(one, 1000));
            for (int reading : new int[] {0, 500, 1100}) {
                hash = mix(hash, x.corrected(one, reading, 0));
                hash = mix(hash, x.corrected(one, reading, 1));
            }
            for (int bath = 0; bath < 4; bath++) {
                hash = mix(hash, x.whyNot(one, bath));
            }
            for (int other = 0; other < x.count(1); other++) {
                hash = mix(hash, x.overlap(one, other, 500));
            }
            hash = mix(hash, x.worstDegree(one, 0));
            hash = mix(hash, x.voidIn(one));
        }
        hash = mix(hash, x.stopped(0));
        hash = mix(hash, x.stopped(1));
        hash = mix(hash, Double.doubleToLongBits(x.validShare()));
        hash = mix(hash, buffer.length());
        for (int i = 0; i < buffer.length(); i++) {
            hash = mix(hash, buffer.charAt(i));
        }
        return hash;
    }
}
