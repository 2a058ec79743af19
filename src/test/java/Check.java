import java.util.function.Supplier;

/** What the tests share: answers are compared, and what is wrong is printed and counted. */
final class Check {
    private static final int MOST_TOLD = 40;

    private final String test;
    private String sentence = "";
    private int wrong;
    private int done;

    Check(String test) {
        this.test = test;
    }

    interface Call {
        long answer();
    }

    interface Of {
        long answer(ThawPoints x, int value);
    }

    /** The answers that follow keep these words of a promise, or of the terms (promise 0); the document tells them. */
    void keeps(int promise, String words) {
        sentence = (promise == Document.TERMS ? "Terms" : "Promise " + promise) + ", \"" + words + "\": ";
        done++;
        if (Document.isAtHand() && !Document.tells(promise, words)) {
            fail("the document does not tell this");
        }
    }

    /** The least and the greatest value are taken; those next to them, and the ends of int, change nothing. */
    void allows(String call, Supplier<ThawPoints> made, int least, int greatest,
            Class<? extends RuntimeException> refusal, Of of) {
        for (int value : new int[] {least, greatest}) {
            done++;
            try {
                of.answer(made.get(), value);
            } catch (RuntimeException e) {
                fail(call + " of " + value + " threw " + e);
            }
        }
        for (int value : new int[] {least - 1, greatest + 1, Integer.MIN_VALUE, Integer.MAX_VALUE}) {
            ThawPoints x = made.get();
            refuses(x, call + " of " + value, refusal, () -> of.answer(x, value));
        }
    }

    void allowsIndex(String call, Supplier<ThawPoints> made, int least, int greatest, Of of) {
        allows(call, made, least, greatest, IndexOutOfBoundsException.class, of);
    }

    void allowsArgument(String call, Supplier<ThawPoints> made, int least, int greatest, Of of) {
        allows(call, made, least, greatest, IllegalArgumentException.class, of);
    }

    void due(String call, long got, long want) {
        done++;
        if (got != want) {
            fail(call + " answered " + got + ", due is " + want);
        }
    }

    void dueShare(String call, double got, double want) {
        done++;
        if (Double.doubleToLongBits(got) != Double.doubleToLongBits(want)) {
            fail(call + " answered " + got + ", due is " + want);
        }
    }

    /** The call throws exactly this exception, and nothing is changed by it. */
    void refuses(ThawPoints x, String call, Class<? extends RuntimeException> want, Call refused) {
        done++;
        long before = x.digest();
        try {
            long got = refused.answer();
            fail(call + " answered " + got + ", due is " + want.getSimpleName());
        } catch (RuntimeException e) {
            if (e.getClass() != want) {
                fail(call + " threw " + e + ", due is " + want.getSimpleName());
            }
        }
        if (x.digest() != before) {
            fail(call + " threw and changed the state");
        }
    }

    void noIndex(ThawPoints x, String call, Call refused) {
        refuses(x, call, IndexOutOfBoundsException.class, refused);
    }

    void noArgument(ThawPoints x, String call, Call refused) {
        refuses(x, call, IllegalArgumentException.class, refused);
    }

    void noState(ThawPoints x, String call, Call refused) {
        refuses(x, call, IllegalStateException.class, refused);
    }

    void fail(String what) {
        wrong++;
        if (wrong <= MOST_TOLD) {
            System.out.println(test + ": " + sentence + what);
        }
    }

    void end() {
        System.out.println(test + ": " + (wrong == 0 ? done + " answers as due" : wrong + " wrong"));
        if (wrong != 0) {
            System.exit(1);
        }
    }

    static void write(ThawPoints x, String text) {
        for (int i = 0; i < text.length(); i++) {
            x.append(text.charAt(i));
        }
    }

    static int doWork(ThawPoints x, String text) {
        x.clearBuffer();
        write(x, text);
        return x.work();
    }
}
