/** Compares answers with the ones that are due, prints those that differ, and ends a test. */
final class Due {
    private static int checked = 0;
    private static int wrong = 0;

    private Due() {
    }

    static void due(String call, long got, long want) {
        checked++;
        if (got != want) {
            wrong++;
            System.out.println(call + " answered " + got + ", due is " + want);
        }
    }

    static void due(String call, boolean got, boolean want) {
        due(call, got ? 1L : 0L, want ? 1L : 0L);
    }

    static void end() {
        System.out.println((checked - wrong) + " passed, " + wrong + " failed");
        if (wrong != 0 || checked == 0) {
            System.exit(1);
        }
    }
}
