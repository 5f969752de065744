/** Compares answers with the ones that are due, and counts those that differ. */
final class Due {
    private static int wrong = 0;

    private Due() {
    }

    /** A call that answers a number. */
    interface Call {
        long answer();
    }

    static void equal(String what, long want, long got) {
        if (got != want) {
            tell(what + " answered " + got + ", due is " + want);
        }
    }

    static void isTrue(String what, boolean holds) {
        if (!holds) {
            tell(what);
        }
    }

    /** The call must throw just this exception, not a class below it that the Java machine throws. */
    static void thrown(String what, Class<? extends RuntimeException> want, Call call) {
        String got = outcome(call);
        if (!got.equals("throws " + want.getSimpleName())) {
            tell(what + ": " + got + ", due is " + want.getSimpleName());
        }
    }

    /** The call must throw, and leave all that can be asked of x as it was, and no action remembered. */
    static void refused(String what, Class<? extends RuntimeException> want, PassedTraits x, Call call) {
        String before = Look.at(x);
        thrown(what, want, call);
        isTrue(what + " changed something", before.equals(Look.at(x)));
    }

    static String outcome(Call call) {
        try {
            return String.valueOf(call.answer());
        } catch (RuntimeException e) {
            return "throws " + e.getClass().getSimpleName();
        }
    }

    static void tell(String text) {
        wrong++;
        if (wrong <= 40) {
            System.out.println(text);
        }
    }

    static void end() {
        if (wrong != 0) {
            System.out.println(wrong + " answers are not as due");
            System.exit(1);
        }
        System.out.println("all answers are as due");
    }
}
