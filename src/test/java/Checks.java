import java.util.concurrent.Callable;

/** Counts the checks of one test, and prints each one that fails with its promise and its line. */
final class Checks {
    static final Class<? extends Exception> BOUNDS = IndexOutOfBoundsException.class;
    static final Class<? extends Exception> ARGUMENT = IllegalArgumentException.class;
    static final Class<? extends Exception> STATE = IllegalStateException.class;
    static final Class<? extends Exception> UNSUPPORTED = UnsupportedOperationException.class;
    static final Class<? extends Exception> NO_ELEMENT = java.util.NoSuchElementException.class;
    static final Class<? extends Exception> ARITHMETIC = ArithmeticException.class;

    private static int passed;
    private static int failed;
    private static int promise;

    private Checks() {
    }

    static void promise(int number) {
        promise = number;
    }

    static void is(long want, long got) {
        check(want == got, String.valueOf(want), String.valueOf(got));
    }

    static void is(char want, char got) {
        check(want == got, String.valueOf(want), String.valueOf(got));
    }

    static void is(boolean want, boolean got) {
        check(want == got, String.valueOf(want), String.valueOf(got));
    }

    static void is(double want, double got) {
        check(want == got, String.valueOf(want), String.valueOf(got));
    }

    static void fails(Class<? extends Exception> want, Callable<?> call) {
        String got;
        boolean isWanted = false;
        try {
            got = String.valueOf(call.call());
        } catch (Exception e) {
            // The very class, thrown by the program itself: neither the machine nor the library may throw in it.
            isWanted = e.getClass() == want && isThrownByProgram(e);
            got = e.getClass().getName() + (isThrownByProgram(e) ? "" : ", not thrown by the program");
        }
        check(isWanted, want.getName(), got);
    }

    /** Only these classes of exceptions could also come from the machine or the library, in a program that works. */
    static boolean isThrownByProgram(Throwable e) {
        if (!(e instanceof IndexOutOfBoundsException) && !(e instanceof ArithmeticException)) {
            return true;
        }
        StackTraceElement[] frames = e.getStackTrace();
        return frames.length > 0 && frames[0].getClassName().startsWith("FormRiver");
    }

    static void check(boolean isRight, String want, String got) {
        if (isRight) {
            passed++;
            return;
        }
        failed++;
        System.out.println("promise " + promise + ", " + callingLine() + ": due is " + want + ", got " + got);
    }

    /** Ends the test's program, with exit code 1 if a check failed. */
    static void end() {
        System.out.println(passed + " checks hold, " + failed + " fail");
        if (failed != 0 || passed == 0) {
            System.exit(1);
        }
    }

    private static String callingLine() {
        for (StackTraceElement frame : new Throwable().getStackTrace()) {
            if (frame.getClassName().endsWith("Test")) {
                return frame.getFileName() + ":" + frame.getLineNumber();
            }
        }
        return "?";
    }
}
