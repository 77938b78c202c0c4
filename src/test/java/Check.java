/** Counts what is as due and prints what is not; shared by the tests of the project. */
final class Check {
    /** A call that may throw. */
    interface Call {
        void run();
    }

    private static int passed = 0;
    private static int failed = 0;

    private Check() {
    }

    static void that(String what, boolean holds) {
        if (holds) {
            passed++;
        } else {
            failed++;
            if (failed <= 50) {
                System.out.println("not as due: " + what);
            }
        }
    }

    /** The text of what was asked is made only for an answer that is not as due: it may be long. */
    static void same(CharSequence what, Object got, Object due) {
        if (due == null ? got == null : due.equals(got)) {
            passed++;
        } else {
            that(what + " answered " + got + ", due is " + due, false);
        }
    }

    static void answers(CharSequence what, long got, long due) {
        if (got == due) {
            passed++;
        } else {
            that(what + " answered " + got + ", due is " + due, false);
        }
    }

    /** The call throws just this class, by a throw of the program and not of the machine. */
    static void throwing(Class<? extends RuntimeException> due, String what, Call call) {
        same(what, thrownBy(call), due);
    }

    static Class<?> thrownBy(Call call) {
        try {
            call.run();
        } catch (RuntimeException thrown) {
            if ("/ by zero".equals(thrown.getMessage())) {
                that("the machine divided by zero", false);
            }
            return thrown.getClass();
        }
        return null;
    }

    static void end(String name) {
        System.out.println(name + ": " + passed + " answers as due, " + failed + " not");
        if (failed != 0 || passed == 0) {
            System.exit(1);
        }
    }
}
