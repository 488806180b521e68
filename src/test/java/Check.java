/** Counts the answers that are not as due; every test ends with finish(). */
final class Check {
    private static int wrong = 0;
    private static int asked = 0;

    private Check() {
    }

    static void due(String call, long got, long want) {
        asked++;
        if (got != want) {
            wrong++;
            System.out.println(call + " answered " + got + ", due is " + want);
        }
    }

    static void due(String call, boolean got, boolean want) {
        due(call, got ? 1L : 0L, want ? 1L : 0L);
    }

    static void finish() {
        if (asked == 0) {
            System.out.println("nothing was asked");
        }
        if (wrong != 0 || asked == 0) {
            System.exit(1);
        }
    }
}
