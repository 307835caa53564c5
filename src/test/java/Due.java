import java.util.function.LongSupplier;

/** Compares answers with those that are due; finish() ends the test with exit code 1 if one was not. */
final class Due {
    private static int looked = 0;
    private static int wrong = 0;

    private Due() {
    }

    static void answer(String what, long got, long want) {
        looked++;
        if (got != want) {
            wrong++;
            if (wrong <= 40) {
                System.out.println(what + " answered " + got + ", due is " + want);
            }
        }
    }

    static void answer(String what, boolean got, boolean want) {
        answer(what, got ? 1 : 0, want ? 1 : 0);
    }

    /** The call throws just this exception, not one of a class below it. */
    static void thrown(String what, Class<?> want, LongSupplier call) {
        looked++;
        Class<?> got = null;
        try {
            call.getAsLong();
        } catch (RuntimeException e) {
            got = e.getClass();
        }
        if (got != want) {
            wrong++;
            System.out.println(what + " threw " + got + ", due is " + want);
        }
    }

    static boolean allRight() {
        return wrong == 0;
    }

    static void finish() {
        System.out.println(wrong == 0 ? looked + " answers are as due" : wrong + " of " + looked + " answers are not as due");
        if (wrong != 0 || looked == 0) {
            System.exit(1);
        }
    }
}
