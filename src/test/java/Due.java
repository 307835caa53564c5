import java.lang.reflect.InvocationTargetException;
import java.lang.reflect.Method;
import java.util.Arrays;
import java.util.function.LongSupplier;

/** Compares answers with those that are due; finish() ends the test with exit code 1 if one was not. */
final class Due {
    private static final int MOST_SHOWN = 40;

    private static int looked = 0;
    private static int wrong = 0;
    private static String about = "";

    private Due() {
    }

    /** Runs every method of a class that has a sentence, then finishes. */
    static void sentences(Class<?> tests) throws ReflectiveOperationException {
        for (Method test : tests.getDeclaredMethods()) {
            Sentence sentence = test.getAnnotation(Sentence.class);
            if (sentence == null) {
                continue;
            }
            about = sentence.in() + ", \"" + sentence.says() + "\" ";
            int before = looked;
            try {
                test.invoke(null);
            } catch (InvocationTargetException e) {
                StackTraceElement[] trace = e.getCause().getStackTrace();
                tell("ended by " + e.getCause() + " at " + Arrays.toString(trace).replaceAll("java.base.*", ".."));
            }
            if (looked == before) {
                tell("is not tested by " + test.getName());
            }
        }
        about = "";
        finish();
    }

    static void answer(String what, long got, long want) {
        looked++;
        if (got != want) {
            tell(what + " answered " + got + ", due is " + want);
        }
    }

    static void answer(String what, boolean got, boolean want) {
        looked++;
        if (got != want) {
            tell(what + " answered " + got + ", due is " + want);
        }
    }

    static void answer(String what, String got, String want) {
        looked++;
        if (!got.equals(want)) {
            tell(what + " answered " + got + ", due is " + want);
        }
    }

    /** The call throws just this exception, not one of a class below it. */
    static void thrown(String what, Class<? extends RuntimeException> want, LongSupplier call) {
        looked++;
        Class<?> got = null;
        try {
            call.getAsLong();
        } catch (RuntimeException e) {
            got = e.getClass();
        }
        if (got != want) {
            tell(what + " threw " + got + ", due is " + want);
        }
    }

    private static void tell(String text) {
        wrong++;
        if (wrong <= MOST_SHOWN) {
            System.out.println(about + text);
        }
    }

    static boolean allRight() {
        return wrong == 0;
    }

    static void finish() {
        System.out.println(wrong == 0 ? looked + " answers are as due" : wrong + " of " + looked + " answers are not as due");
        if (wrong != 0 || looked == 0) {
            System.exit(1);
        }
    }
}
