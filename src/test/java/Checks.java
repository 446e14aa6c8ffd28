/** Counts and prints the answers that are not as due. */
final class Checks {
    // A test takes some seconds: one that takes this long has met a call that does not end.
    private static final long LONGEST_MILLIS = 300000;

    private static int wrong = 0;
    private static int asked = 0;
    private static String about = "";

    static {
        Thread limit = new Thread(Checks::endTooLong);
        limit.setDaemon(true);
        limit.start();
    }

    private Checks() {
    }

    private static void endTooLong() {
        try {
            Thread.sleep(LONGEST_MILLIS);
        } catch (InterruptedException e) {
            return;
        }
        System.out.println(about + "a call does not end");
        Runtime.getRuntime().halt(1);
    }

    /** The sentence of the document that the checks from here on are about. */
    static void sentence(String words) {
        about = words + ": ";
    }

    static void due(String what, long got, long want) {
        asked++;
        if (got != want) {
            wrong++;
            System.out.println(about + what + " answered " + got + ", due is " + want);
        }
    }

    static void due(String what, boolean got, boolean want) {
        due(what, got ? 1L : 0L, want ? 1L : 0L);
    }

    /** How many answers have been looked at. */
    static int asked() {
        return asked;
    }

    static void end() {
        System.out.println(wrong == 0 ? asked + " answers are as due" : wrong + " answers are not as due");
        if (wrong != 0) {
            System.exit(1);
        }
    }
}
