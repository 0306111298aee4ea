/** Counts answers that are not due; a test ends with Due.end. */
final class Due {
    interface Call {
        void make();
    }

    private static int checks = 0;
    private static int wrong = 0;

    private Due() {
    }

    static void is(String call, long got, long want) {
        checks++;
        if (got != want) {
            complain(call + " answered " + got + ", due is " + want);
        }
    }

    static void is(String call, boolean got, boolean want) {
        is(call, got ? 1 : 0, want ? 1 : 0);
    }

    static void isNumber(String call, double got, double want) {
        checks++;
        if (got != want) {
            complain(call + " answered " + got + ", due is " + want);
        }
    }

    /** The call has to throw just this exception, and to change nothing. */
    static void fails(Beadslant x, String call, Class<? extends RuntimeException> want, Call made) {
        checks++;
        String before = Sight.of(x);
        try {
            made.make();
            complain(call + " threw nothing, due is " + want.getSimpleName());
        } catch (RuntimeException e) {
            if (e.getClass() != want) {
                complain(call + " threw " + e.getClass().getSimpleName() + ", due is " + want.getSimpleName());
            }
        }
        if (!Sight.of(x).equals(before)) {
            complain(call + " threw, but changed something");
        }
    }

    static void complain(String what) {
        wrong++;
        System.out.println(what);
    }

    static void end() {
        System.out.println(checks + " checks, " + wrong + " wrong");
        if (wrong != 0) {
            System.exit(1);
        }
    }
}
