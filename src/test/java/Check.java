/** Compares answers with those that are due, and ends the program with 1 if one was wrong. */
final class Check {
    private static int wrong = 0;
    private static int seen = 0;

    private Check() {
    }

    static void due(String call, long got, long want) {
        seen++;
        if (got != want) {
            wrong++;
            System.out.println(call + " answered " + got + ", due is " + want);
        }
    }

    static void due(String call, boolean holds) {
        due(call, holds ? 1 : 0, 1);
    }

    /** As above, with the line of the test in place of the call's name. */
    static void due(long got, long want) {
        due(got == want ? "" : place(), got, want);
    }

    private static String place() {
        return StackWalker.getInstance().walk(frames -> frames
            .filter(frame -> frame.getClassName().endsWith("Test"))
            .map(frame -> frame.getFileName() + ":" + frame.getLineNumber())
            .findFirst().orElse("a call"));
    }

    static boolean failed() {
        return wrong != 0;
    }

    static int wrongSoFar() {
        return wrong;
    }

    static void finish() {
        System.out.println(seen + " answers seen, " + wrong + " not as due");
        if (wrong != 0 || seen == 0) {
            System.exit(1);
        }
    }
}
