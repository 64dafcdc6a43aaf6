import java.util.NoSuchElementException;
import java.util.function.Supplier;

/** Counts answers that are as due and those that are not, and looks at refused calls beside a twin. */
class Checks {
    /** A call on an object, with its answer. */
    interface Call {
        Object on(TraceAssembler x);
    }

    static final Class<?> INDEX = IndexOutOfBoundsException.class;
    static final Class<?> ARGUMENT = IllegalArgumentException.class;
    static final Class<?> STATE = IllegalStateException.class;
    static final Class<?> MISSING = NoSuchElementException.class;
    static final Class<?> ARITHMETIC = ArithmeticException.class;
    static final Class<?> UNSUPPORTED = UnsupportedOperationException.class;

    private static int passed = 0;
    private static int failed = 0;
    private static String topic = "";

    static void topic(String name) {
        topic = name;
    }

    static int made() {
        return passed + failed;
    }

    static void due(Object got, Object want) {
        if (got.equals(want)) {
            passed++;
        } else {
            fail("answered " + got + ", due is " + want);
        }
    }

    static void fail(String what) {
        failed++;
        System.out.println(topic + ", line " + line() + ": " + what);
    }

    /** The line of the test that stands behind the call, not that of a helper. */
    private static int line() {
        int line = 0;
        for (StackTraceElement frame : new Throwable().getStackTrace()) {
            if (frame.getFileName() != null && frame.getFileName().endsWith("Tests.java")
                    && !frame.getMethodName().equals("main") && !frame.getMethodName().equals("runAll")) {
                line = frame.getLineNumber();
            }
        }
        return line;
    }

    /** The answer of a call, or the class of what it throws. */
    static Object outcome(TraceAssembler x, Call call) {
        try {
            return call.on(x);
        } catch (RuntimeException e) {
            // what the machine throws by itself must not pass for what the class throws
            boolean isThrown = e.getStackTrace().length > 0
                    && e.getStackTrace()[0].getClassName().startsWith("TraceAssembler")
                    && (e.getMessage() == null || !e.getMessage().equals("/ by zero"));
            return isThrown ? e.getClass() : "a fault of the machine: " + e;
        }
    }

    /** Each call, on an object of its own, throws the exception, and the object stays like one without the call. */
    static void refused(Class<?> want, Supplier<TraceAssembler> made, Call... calls) {
        String twin = ReadOut.everything(made.get());
        for (int k = 0; k < calls.length; k++) {
            TraceAssembler x = made.get();
            Object got = outcome(x, calls[k]);
            if (!want.equals(got)) {
                fail("call " + k + " answered " + got + ", due is " + want);
            } else {
                sameAs(twin, x, "call " + k + " has changed something: ");
            }
        }
    }

    /** Each call, on an object of its own, answers something and changes nothing. */
    static void onlyAnswers(Supplier<TraceAssembler> made, Call... calls) {
        String twin = ReadOut.everything(made.get());
        for (int k = 0; k < calls.length; k++) {
            TraceAssembler x = made.get();
            Object got = outcome(x, calls[k]);
            if (got instanceof Class || got instanceof String) {
                fail("call " + k + " answered " + got);
            } else {
                sameAs(twin, x, "call " + k + " has changed something: ");
            }
        }
    }

    /** Both objects answer everything alike. */
    static void alike(TraceAssembler x, TraceAssembler y) {
        sameAs(ReadOut.everything(y), x, "not alike: ");
    }

    private static void sameAs(String twin, TraceAssembler x, String fault) {
        String got = ReadOut.everything(x);
        if (got.equals(twin)) {
            passed++;
        } else {
            fail(fault + firstDifference(got, twin));
        }
    }

    private static String firstDifference(String got, String want) {
        String[] one = got.split("\n");
        String[] other = want.split("\n");
        for (int k = 0; k < Math.min(one.length, other.length); k++) {
            if (!one[k].equals(other[k])) {
                return one[k] + " instead of " + other[k];
            }
        }
        return one.length + " rows instead of " + other.length;
    }

    /** Says how it went; true if all was as due. */
    static boolean report(String name) {
        System.out.println(name + ": " + passed + " answers as due, " + failed + " not");
        return failed == 0 && passed > 0;
    }
}
