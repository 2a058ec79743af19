/** Long runs of drawn calls: the class and the Model answer the same, also with the exceptions they throw. */
public final class ModelTest {
    private static final Check check = new Check("ModelTest");
    private static final int RUNS = 800;
    private static final int CALLS = 500;

    private static long drawn;
    private static final int[] seen = new int[64];

    public static void main(String[] args) {
        for (int run = 0; run < RUNS; run++) {
            drawn = 7919L * run + 13;
            runOf(run);
        }
        for (int promise = 2; promise <= 28; promise++) {
            check.due("promise " + promise + " is answered often", seen[promise] > 100 ? 1 : 0, 1);
        }
        for (int reason = 1; reason <= 8; reason++) {
            check.due("reason " + reason + " is met often, not " + seen[40 + reason], seen[40 + reason] > 20 ? 1 : 0, 1);
        }
        check.end();
    }

    private static int draw(int least, int most) {
        drawn = drawn * 6364136223846793005L + 1442695040888963407L;
        return least + (int) Math.floorMod(drawn >>> 33, (long) (most - least + 1));
    }

    private static boolean often(int ofHundred) {
        return draw(1, 100) <= ofHundred;
    }

    private static void runOf(int run) {
        ThawPoints x = new ThawPoints();
        Model model = new Model();
        int made = draw(1, 6);
        for (int number = 0; number < made; number++) {
            compare(run, x, model, 2, draw(-50, 50), draw(-50, 50), run % 3 == 0 ? 1 : draw(0, 3));
        }
        if (run % 3 == 0) {
            compare(run, x, model, 6, 6, 100, 0);
            compare(run, x, model, 6, 5, draw(0, 2), 0);
        }
        for (int call = made + 2; call < CALLS; call++) {
            int promise = drawPromise(run);
            if (promise == 10 && often(70)) {
                call += append(run, x, model, drawText());
            } else {
                compare(run, x, model, promise, drawFirst(promise), drawSecond(promise), drawThird(promise));
            }
            if (call % 7 == 0) {
                compare(run, x, model, 28, 0, 0, 0);
            }
        }
    }

    private static int drawPromise(int run) {
        int[] many = {2, 3, 4, 4, 4, 5, 6, 7, 7, 7, 7, 7, 7, 8, 9, 9, 9, 10, 10, 11, 12, 13, 13, 14, 15, 16, 17, 18, 19, 19,
            20, 20, 20, 21, 21, 22, 23, 24, 24, 25, 26, 26, 27};
        int promise = many[draw(0, many.length - 1)];
        boolean rare = promise == 3 || promise == 17 || promise == 15 || promise == 8 || promise == 5 && run % 2 == 0;
        return rare && often(60) ? 7 : promise;
    }

    private static int drawThermometer() {
        return often(4) ? draw(-1, 6) : draw(0, 2);
    }

    private static int drawDegree() {
        int kind = draw(0, 9);
        return kind < 4 ? draw(-4, 15) * 100 : kind < 6 ? draw(0, 1) * 1000 : kind < 7 ? draw(-402, 1502)
                : kind < 8 ? draw(-3, 3) : draw(0, 50) * 20;
    }

    private static int drawFirst(int promise) {
        switch (promise) {
            case 2: return often(5) ? draw(-60, 60) : draw(-50, 50);
            case 4: return often(5) ? draw(-1, 4) : draw(0, 3);
            case 5: return often(20) ? draw(0, 21) : draw(1, 2);
            case 6: return often(10) ? draw(-1, 7) : draw(0, 6);
            case 10: return often(10) ? draw(30, 130) : ";mcypb0123456789-,/:=".charAt(draw(0, 20));
            case 14: return draw(-1, 2);
            case 22: return draw(-1, 18);
            default: return drawThermometer();
        }
    }

    private static int drawSecond(int promise) {
        switch (promise) {
            case 2: return draw(-51, 51);
            case 4: case 8: case 18: return drawDegree();
            case 6: return often(10) ? draw(-1, 101) : draw(0, 20);
            case 7: case 23: return often(4) ? draw(-1, 4) : draw(0, 3);
            case 19: return often(5) ? draw(-1100, 2100) : draw(-999, 1999);
            case 20: return draw(-1, 9);
            case 21: return draw(-1, 10);
            default: return drawThermometer();
        }
    }

    private static int drawThird(int promise) {
        switch (promise) {
            case 2: return often(5) ? draw(-1, 4) : draw(0, 3);
            case 19: return often(5) ? draw(-1, 2) : draw(0, 1);
            case 21: return draw(-1, 4);
            case 24: return drawDegree();
            default: return 0;
        }
    }

    private static String drawText() {
        if (often(12)) {
            return "b0=0;b1=1000;c0:0;c0:1;p0;y1;c1:0;c1:1;p1"; // an overlap that is too wide, if both are of a batch
        }
        StringBuilder text = new StringBuilder();
        int parts = draw(1, 6);
        for (int part = 0; part < parts; part++) {
            text.append(part > 0 ? ";" : "");
            switch (draw(0, 6)) {
                case 0: text.append('m').append(draw(-50, 50)).append(',').append(draw(-50, 50)).append('/')
                        .append(draw(0, 3)); break;
                case 1: text.append('y').append(often(80) ? 1 : draw(1, 20)); break;
                case 2: text.append('p').append(draw(0, 2)); break;
                case 3: text.append('b').append(draw(0, 3)).append('=').append(drawDegree()); break;
                default: text.append('c').append(draw(0, often(10) ? 5 : 2)).append(':').append(draw(0, 3)); break;
            }
        }
        if (often(15)) {
            text.setCharAt(draw(0, text.length() - 1), ";mcypb0123456789-,/:=".charAt(draw(0, 20)));
        }
        return text.toString();
    }

    private static int append(int run, ThawPoints x, Model model, String text) {
        compare(run, x, model, 11, 0, 0, 0);
        for (int i = 0; i < text.length(); i++) {
            compare(run, x, model, 10, text.charAt(i), 0, 0);
        }
        compare(run, x, model, 12, 0, 0, 0);
        compare(run, x, model, 13, 0, 0, 0);
        compare(run, x, model, 14, 1, 0, 0);
        return text.length() + 3;
    }

    private static void compare(int run, ThawPoints x, Model model, int promise, int a, int b, int c) {
        String want;
        String got;
        try {
            long answer = model.call(promise, a, b, c);
            want = Long.toString(answer);
            seen[promise]++;
            if (promise == 14 && a == 1 && answer > 0) {
                seen[40 + (int) answer]++;
            }
        } catch (IndexOutOfBoundsException | IllegalArgumentException | IllegalStateException e) {
            want = e.getClass().getSimpleName();
        }
        try {
            got = Long.toString(call(x, promise, a, b, c));
        } catch (RuntimeException e) {
            got = e.getClass().getSimpleName();
        }
        check.due("run " + run + ", promise " + promise + " of " + a + ", " + b + ", " + c + ": " + got + ", due " + want,
                got.equals(want) ? 1 : 0, 1);
    }

    private static long call(ThawPoints x, int promise, int a, int b, int c) {
        switch (promise) {
            case 2: return x.make(a, b, c);
            case 3: return x.breakOne(a);
            case 4: return x.bath(a, b);
            case 5: return x.pass(a);
            case 6: return x.set(a, b);
            case 7: return x.measure(a, b);
            case 8: return x.forget(a, b);
            case 9: return x.paper(a);
            case 10: return x.append(a);
            case 11: return x.clearBuffer();
            case 12: return x.firstError();
            case 13: return x.work();
            case 14: return x.stopped(a);
            case 15: return x.undo();
            case 16: return x.keep();
            case 17: return x.restore();
            case 18: return x.reads(a, b);
            case 19: return x.corrected(a, b, c);
            case 20: return x.thermometer(a, b);
            case 21: return x.point(a, b, c);
            case 22: return x.count(a);
            case 23: return x.whyNot(a, b);
            case 24: return x.overlap(a, b, c);
            case 25: return x.worstDegree(a, b);
            case 26: return x.voidIn(a);
            case 27: return Double.doubleToLongBits(x.validShare());
            default: return x.digest();
        }
    }
}
