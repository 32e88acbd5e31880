/** Counts what is not as due; a test's main method ends with end(). */
final class Check {
    private static int wrong = 0;
    private static int asked = 0;
    private static String sentence = "";

    private Check() {
    }

    /** The document's sentence that the checks from here on would miss; it is told with each that fails. */
    static void about(String words) {
        sentence = "\"" + words + "\" ";
    }

    static void same(String what, long got, long want) {
        asked++;
        if (got != want) {
            fail(what + " answered " + got + ", due is " + want);
        }
    }

    static void sameText(String what, String got, String want) {
        asked++;
        if (!got.equals(want)) {
            fail(what + " is " + got + ", due is " + want);
        }
    }

    static void yes(String what, boolean got) {
        same(what, got ? 1 : 0, 1);
    }

    static void no(String what, boolean got) {
        same(what, got ? 1 : 0, 0);
    }

    static void badArgument(String what, Runnable call) {
        thrown(what, call, "IllegalArgumentException");
    }

    static void badState(String what, Runnable call) {
        thrown(what, call, "IllegalStateException");
    }

    private static void thrown(String what, Runnable call, String want) {
        asked++;
        String got = "nothing";
        try {
            call.run();
        } catch (RuntimeException e) {
            got = e.getClass().getSimpleName();
        }
        if (!got.equals(want)) {
            fail(what + " threw " + got + ", due is " + want);
        }
    }

    private static void fail(String what) {
        wrong++;
        System.out.println(sentence + what);
    }

    static boolean isAllRight() {
        return wrong == 0;
    }

    static void end() {
        System.out.println(asked + " answers, " + wrong + " not as due");
        if (wrong != 0) {
            System.exit(1);
        }
    }
}
