import java.util.concurrent.Callable;

/** Counts and prints what is not as due. */
final class Check {
    private static int wrong = 0;
    private static int checks = 0;
    private static String about = "";

    private Check() {
    }

    /** The checks that come now are about these words of this promise in the document. */
    static void promise(int number, String... words) {
        begin("promise " + number, number, words);
    }

    /** The same for words of the document's terms, seen through a promise. */
    static void term(int seenThrough, String... words) {
        begin("promise " + seenThrough + ", terms", Document.TERMS, words);
    }

    private static void begin(String name, int section, String... words) {
        about = "";
        for (String some : words) {
            same("the document says, " + name + ": " + some, Document.quote(section, some), true);
        }
        about = name + ", \"" + String.join("\", \"", words) + "\": ";
    }

    static void aboutNothing() {
        about = "";
    }

    static boolean isAboutNothing() {
        return about.isEmpty();
    }

    static int count() {
        return checks;
    }

    static void same(String what, Object got, Object due) {
        checks++;
        if (!String.valueOf(due).equals(String.valueOf(got))) {
            wrong++;
            System.out.println(about + what + ": answered " + got + ", due is " + due);
        }
    }

    /** What a call answers, or "throws." and the exact class of what it throws. */
    static Object answer(Callable<Object> call) {
        try {
            return call.call();
        } catch (Throwable thrown) {
            return "throws." + thrown.getClass().getName();
        }
    }

    static void index(String what, Callable<Object> call) {
        same(what, answer(call), "throws.java.lang.IndexOutOfBoundsException");
    }

    static void argument(String what, Callable<Object> call) {
        same(what, answer(call), "throws.java.lang.IllegalArgumentException");
    }

    static void state(String what, Callable<Object> call) {
        same(what, answer(call), "throws.java.lang.IllegalStateException");
    }

    /** Ends the program with 1 if anything was wrong. */
    static void end(String name) {
        System.out.println(name + ": " + checks + " checks, " + wrong + " wrong");
        if (wrong != 0 || checks == 0) {
            System.exit(1);
        }
    }
}
