import java.lang.reflect.InvocationTargetException;
import java.lang.reflect.Method;
import java.util.TreeMap;

/** Runs tests that are named by their promise's number, and asks for the ends of ranges and for refused calls. */
final class Edges {
    private static final Class<?> NO_SUCH = IndexOutOfBoundsException.class;
    private static final Class<?> BAD_ARGUMENT = IllegalArgumentException.class;
    private static final Class<?> BAD_STATE = IllegalStateException.class;

    /** How a bureau comes to be as a test needs it. */
    interface Make {
        SkyloadBureau made();
    }

    interface Call {
        void on(SkyloadBureau bureau);
    }

    interface CallWith {
        void on(SkyloadBureau bureau, int value);
    }

    private static String running = "";

    private Edges() {
    }

    /** Every static method whose name begins with p and a promise's number, in the order of the names. */
    static void runAll(Class<?> tests) {
        TreeMap<String, Method> found = new TreeMap<>();
        for (Method method : tests.getDeclaredMethods()) {
            if (method.getName().matches("p[0-9][0-9]_.*")) {
                found.put(method.getName(), method);
            }
        }
        Check.isTrue(tests.getName() + " has tests", !found.isEmpty());
        for (Method test : found.values()) {
            run(test);
        }
        Check.finish(tests.getName() + " with " + found.size() + " tests");
    }

    private static void run(Method test) {
        running = test.getName();
        try {
            test.setAccessible(true);
            test.invoke(null);
        } catch (InvocationTargetException thrown) {
            Check.fail(running + " ends with " + thrown.getCause());
        } catch (IllegalAccessException thrown) {
            Check.fail(running + " cannot be run");
        }
    }

    static void equal(String what, long got, long due) {
        Check.equal(running + ": " + what, got, due);
    }

    static void isTrue(String what, boolean got) {
        Check.isTrue(running + ": " + what, got);
    }

    /** A number of a flight, a sector, a regulation or a company. */
    static void numbers(int least, int most, Make make, CallWith call) {
        range(NO_SUCH, least, most, make, call);
    }

    static void arguments(int least, int most, Make make, CallWith call) {
        range(BAD_ARGUMENT, least, most, make, call);
    }

    static void noSuch(String what, Make make, Call call) {
        refused(what, NO_SUCH, make, call);
    }

    static void badArgument(String what, Make make, Call call) {
        refused(what, BAD_ARGUMENT, make, call);
    }

    static void badState(String what, Make make, Call call) {
        refused(what, BAD_STATE, make, call);
    }

    /** The values at both ends are allowed; the first ones outside, and those farthest away, are not. */
    private static void range(Class<?> due, int least, int most, Make make, CallWith call) {
        allowed(least, make, call);
        allowed(most, make, call);
        int[] outside = {least - 1, most + 1, Integer.MIN_VALUE, Integer.MAX_VALUE};
        for (int value : outside) {
            refused("with " + value, due, make, bureau -> call.on(bureau, value));
        }
    }

    private static void allowed(int value, Make make, CallWith call) {
        try {
            call.on(make.made(), value);
        } catch (RuntimeException thrown) {
            Check.fail(running + ": with " + value + " throws " + thrown.getClass().getName());
        }
    }

    /** The refused call must leave the bureau just like one that never got it. */
    private static void refused(String what, Class<?> due, Make make, Call call) {
        SkyloadBureau bureau = make.made();
        Check.throwing(running + ": " + what, due, () -> call.on(bureau));
        unchanged(what, bureau, make.made());
    }

    static void unchanged(String what, SkyloadBureau bureau, SkyloadBureau twin) {
        String got = Snapshot.of(bureau);
        String want = Snapshot.of(twin);
        Check.isTrue(running + ": " + what + " changes nothing; now\n" + got + "instead of\n" + want,
            got.equals(want));
    }
}
