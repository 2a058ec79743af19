/** What the tests share: answers are compared, and what is wrong is printed and counted. */
final class Check {
    private final String test;
    private int wrong;
    private int done;

    Check(String test) {
        this.test = test;
    }

    interface Call {
        long answer();
    }

    void due(String call, long got, long want) {
        done++;
        if (got != want) {
            fail(call + " answered " + got + ", due is " + want);
        }
    }

    void dueShare(String call, double got, double want) {
        done++;
        if (Double.doubleToLongBits(got) != Double.doubleToLongBits(want)) {
            fail(call + " answered " + got + ", due is " + want);
        }
    }

    /** The call throws exactly this exception, and nothing is changed by it. */
    void refuses(ThawPoints x, String call, Class<? extends RuntimeException> want, Call refused) {
        done++;
        long before = x.digest();
        try {
            long got = refused.answer();
            fail(call + " answered " + got + ", due is " + want.getSimpleName());
        } catch (RuntimeException e) {
            if (e.getClass() != want) {
                fail(call + " threw " + e + ", due is " + want.getSimpleName());
            }
        }
        if (x.digest() != before) {
            fail(call + " threw and changed the state");
        }
    }

    void noIndex(ThawPoints x, String call, Call refused) {
        refuses(x, call, IndexOutOfBoundsException.class, refused);
    }

    void noArgument(ThawPoints x, String call, Call refused) {
        refuses(x, call, IllegalArgumentException.class, refused);
    }

    void noState(ThawPoints x, String call, Call refused) {
        refuses(x, call, IllegalStateException.class, refused);
    }

    void fail(String what) {
        wrong++;
        System.out.println(test + ": " + what);
    }

    void end() {
        System.out.println(test + ": " + (wrong == 0 ? done + " answers as due" : wrong + " wrong"));
        if (wrong != 0) {
            System.exit(1);
        }
    }

    static void write(ThawPoints x, String text) {
        for (int i = 0; i < text.length(); i++) {
            x.append(text.charAt(i));
        }
    }

    static int doWork(ThawPoints x, String text) {
        x.clearBuffer();
        write(x, text);
        return x.work();
    }
}
