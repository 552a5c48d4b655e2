import java.util.function.Consumer;
import java.util.function.Supplier;

/** Counts checks that fail, and ends a test with exit code 1 if there was one. */
final class Check {
    interface Call {
        void run();
    }

    private static int done = 0;
    private static int wrong = 0;
    private static String about = "";

    private Check() {
    }

    static void due(String what, long got, long want) {
        that(what + " answered " + got + ", due is " + want, got == want);
    }

    static void due(String what, double got, double want) {
        that(what + " answered " + got + ", due is " + want, got == want);
    }

    static void due(String what, boolean got, boolean want) {
        that(what + " answered " + got + ", due is " + want, got == want);
    }

    static void due(String what, String got, String want) {
        that(what + " answered " + got + ", due is " + want, want.equals(got));
    }

    static void that(String what, boolean holds) {
        done++;
        if (!holds) {
            wrong++;
            System.out.println(about + what);
        }
    }

    /** Makes the checks of a test under a title; an exception that the test does not expect is one that fails. */
    static void under(String title, Call test) {
        about = "[" + title + "] ";
        int before = done;
        try {
            test.run();
        } catch (RuntimeException e) {
            that("threw " + e + " at " + e.getStackTrace()[0], false);
        }
        that("the test has no check", done > before);
        about = "";
    }

    /** The call throws just this exception. */
    static void throwing(String what, Class<? extends RuntimeException> due, Call call) {
        Class<?> got = null;
        try {
            call.run();
        } catch (RuntimeException e) {
            got = e.getClass();
        }
        that(what + " threw " + got + ", due is " + due, got == due);
    }

    /** The call throws just this exception, and all that can be asked of the object stays as it was. */
    static void refusing(String what, BurstGrouper x, Class<? extends RuntimeException> due, Call call) {
        String before = Picture.of(x);
        throwing(what, due, call);
        due("the state after " + what, Picture.of(x), before);
    }

    /** The call throws just this exception, and nothing is different from an object that was not asked. */
    static void refused(String what, Supplier<BurstGrouper> make, Class<? extends RuntimeException> due,
            Consumer<BurstGrouper> call) {
        BurstGrouper x = make.get();
        throwing(what, due, () -> call.accept(x));
        due("the whole state after " + what, Picture.whole(x), Picture.whole(make.get()));
    }

    /** The call answers, and nothing is different from an object that was not asked. */
    static void asked(String what, Supplier<BurstGrouper> make, Consumer<BurstGrouper> call) {
        BurstGrouper x = make.get();
        call.accept(x);
        due("the whole state after " + what, Picture.whole(x), Picture.whole(make.get()));
    }

    /** The call changes nothing that can be asked of the object. */
    static void changingNothing(String what, BurstGrouper x, Call call) {
        String before = Picture.of(x);
        call.run();
        due("the state after " + what, Picture.of(x), before);
    }

    static void end() {
        System.out.println(done - wrong + " of " + done + " checks hold");
        if (wrong != 0 || done == 0) {
            System.exit(1);
        }
    }
}
