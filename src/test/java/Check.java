/** Counts checks that fail, and ends a test with exit code 1 if there was one. */
final class Check {
    interface Call {
        void run();
    }

    private static int done = 0;
    private static int wrong = 0;

    private Check() {
    }

    static void due(String what, long got, long want) {
        that(what + " answered " + got + ", due is " + want, got == want);
    }

    static void due(String what, double got, double want) {
        that(what + " answered " + got + ", due is " + want, got == want);
    }

    static void due(String what, boolean got, boolean want) {
        that(what + " answered " + got + ", due is " + want, got == want);
    }

    static void due(String what, String got, String want) {
        that(what + " answered " + got + ", due is " + want, want.equals(got));
    }

    static void that(String what, boolean holds) {
        done++;
        if (!holds) {
            wrong++;
            System.out.println(what);
        }
    }

    /** The call throws just this exception. */
    static void throwing(String what, Class<? extends RuntimeException> due, Call call) {
        Class<?> got = null;
        try {
            call.run();
        } catch (RuntimeException e) {
            got = e.getClass();
        }
        that(what + " threw " + got + ", due is " + due, got == due);
    }

    /** The call throws just this exception, and all that can be asked of the object stays as it was. */
    static void refusing(String what, BurstGrouper x, Class<? extends RuntimeException> due, Call call) {
        String before = Picture.of(x);
        throwing(what, due, call);
        due("the state after " + what, Picture.of(x), before);
    }

    /** The call changes nothing that can be asked of the object. */
    static void changingNothing(String what, BurstGrouper x, Call call) {
        String before = Picture.of(x);
        call.run();
        due("the state after " + what, Picture.of(x), before);
    }

    static void end() {
        System.out.println(done - wrong + " of " + done + " checks hold");
        if (wrong != 0 || done == 0) {
            System.exit(1);
        }
    }
}
