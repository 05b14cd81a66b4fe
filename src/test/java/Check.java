/** Counts and prints the answers that are not as due. */
final class Check {
    private static final Class<?> OUT_OF_BOUNDS = IndexOutOfBoundsException.class;
    private static final Class<?> ARGUMENT = IllegalArgumentException.class;
    private static final Class<?> STATE = IllegalStateException.class;

    private static int asked = 0;
    private static int wrong = 0;

    private Check() {
    }

    static void equal(String what, long got, long due) {
        asked++;
        if (got != due) {
            fail(what + " answered " + got + ", due is " + due);
        }
    }

    static void isTrue(String what, boolean got) {
        asked++;
        if (!got) {
            fail(what + " is not so");
        }
    }

    static void noSuch(String what, Runnable call) {
        throwing(what, OUT_OF_BOUNDS, call);
    }

    static void badArgument(String what, Runnable call) {
        throwing(what, ARGUMENT, call);
    }

    static void badState(String what, Runnable call) {
        throwing(what, STATE, call);
    }

    static void finish(String test) {
        System.out.println(test + ": " + asked + " asked, " + wrong + " wrong");
        if (wrong != 0) {
            System.exit(1);
        }
    }

    static void fail(String text) {
        wrong++;
        System.out.println(text);
    }

    static boolean isThrownByTheProgram(RuntimeException thrown) {
        StackTraceElement[] calls = thrown.getStackTrace();
        return calls.length > 0 && calls[0].getClassName().equals("SkyloadBureau");
    }

    /** The class must be the very one: ArrayIndexOutOfBoundsException, say, is the machine's own. */
    static void throwing(String what, Class<?> due, Runnable call) {
        asked++;
        try {
            call.run();
        } catch (RuntimeException thrown) {
            if (thrown.getClass() != due) {
                fail(what + " throws " + thrown.getClass().getName() + ", due is " + due.getName());
            } else if (!isThrownByTheProgram(thrown)) {
                fail(what + " throws out of the library, not by the program's own throw");
            }
            return;
        }
        fail(what + " throws nothing, due is " + due.getName());
    }
}
