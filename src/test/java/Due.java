/** Counts and prints the answers that are not the ones due, and ends a test. */
final class Due {
    // A broken class gives thousands of wrong answers: the first ones of a sentence tell enough.
    private static final int PRINTED = 5;

    private static String sentence = "";
    private static int sentences = 0;
    private static int asked = 0;
    private static int wrong = 0;
    private static int wrongHere = 0;

    private Due() {
    }

    /** Tests one sentence of the document; the body must ask something, and may not throw. */
    static void test(String words, Runnable body) {
        sentence = words;
        sentences++;
        wrongHere = 0;
        int before = asked;
        try {
            body.run();
        } catch (RuntimeException thrown) {
            fail("threw " + thrown);
        }
        if (asked == before) {
            fail("nothing was asked");
        }
    }

    static void is(String call, long got, long want) {
        asked++;
        if (got != want) {
            fail(call + " answered " + got + ", due is " + want);
        }
    }

    static void is(String call, boolean got, boolean want) {
        asked++;
        if (got != want) {
            fail(call + " answered " + got + ", due is " + want);
        }
    }

    static void same(String what, Object got, Object want) {
        asked++;
        if (!got.equals(want)) {
            fail(what + ": got " + got + ", due is " + want);
        }
    }

    private static void fail(String how) {
        wrong++;
        wrongHere++;
        if (wrongHere <= PRINTED) {
            System.out.println("[" + sentence + "] " + how);
        }
    }

    static void end(String test) {
        System.out.println(test + ": " + sentences + " sentences, " + asked + " answers, " + wrong + " not as due");
        if (wrong != 0 || asked == 0) {
            System.exit(1);
        }
    }
}
