/** Counts and prints the answers that are not as due. */
final class Checks {
    private static int wrong = 0;
    private static int asked = 0;
    private static String about = "";

    private Checks() {
    }

    /** The sentence of the document that the checks from here on are about. */
    static void sentence(String words) {
        about = words + ": ";
    }

    static void due(String what, long got, long want) {
        asked++;
        if (got != want) {
            wrong++;
            System.out.println(about + what + " answered " + got + ", due is " + want);
        }
    }

    static void due(String what, boolean got, boolean want) {
        due(what, got ? 1L : 0L, want ? 1L : 0L);
    }

    /** How many answers have been looked at. */
    static int asked() {
        return asked;
    }

    static void end() {
        System.out.println(wrong == 0 ? asked + " answers are as due" : wrong + " answers are not as due");
        if (wrong != 0) {
            System.exit(1);
        }
    }
}
