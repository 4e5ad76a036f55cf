import java.util.concurrent.Callable;

/** Counts and prints what is not as due. */
final class Check {
    private static int wrong = 0;
    private static int checks = 0;

    private Check() {
    }

    static void same(String what, Object got, Object due) {
        checks++;
        if (!String.valueOf(due).equals(String.valueOf(got))) {
            wrong++;
            System.out.println(what + ": answered " + got + ", due is " + due);
        }
    }

    /** What a call answers, or "throws." and the exact class of what it throws. */
    static Object answer(Callable<Object> call) {
        try {
            return call.call();
        } catch (Throwable thrown) {
            return "throws." + thrown.getClass().getName();
        }
    }

    static void index(String what, Callable<Object> call) {
        same(what, answer(call), "throws.java.lang.IndexOutOfBoundsException");
    }

    static void argument(String what, Callable<Object> call) {
        same(what, answer(call), "throws.java.lang.IllegalArgumentException");
    }

    static void state(String what, Callable<Object> call) {
        same(what, answer(call), "throws.java.lang.IllegalStateException");
    }

    /** Ends the program with 1 if anything was wrong. */
    static void end(String name) {
        System.out.println(name + ": " + checks + " checks, " + wrong + " wrong");
        if (wrong != 0 || checks == 0) {
            System.exit(1);
        }
    }
}
