/** Counts what is as it is due; each test class ends with end(). */
final class Check {
    interface Call {
        Object answer();
    }

    private static int passed = 0;
    private static int failed = 0;

    private Check() {
    }

    static void same(String what, Object got, Object want) {
        if (want.equals(got)) {
            passed++;
        } else {
            failed++;
            System.out.println(what + " answered " + got + ", due is " + want);
        }
    }

    /** The answer of a call, or the name of what it throws behind "throws.". */
    static Object answerOf(Call call) {
        try {
            return call.answer();
        } catch (RuntimeException e) {
            return "throws." + e.getClass().getSimpleName();
        }
    }

    static void index(String what, Call call) {
        same(what, answerOf(call), "throws.IndexOutOfBoundsException");
    }

    static void argument(String what, Call call) {
        same(what, answerOf(call), "throws.IllegalArgumentException");
    }

    static void state(String what, Call call) {
        same(what, answerOf(call), "throws.IllegalStateException");
    }

    static void end() {
        System.out.println(passed + " passed, " + failed + " failed");
        if (failed > 0) {
            System.exit(1);
        }
    }
}
