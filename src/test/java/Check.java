/** Counts the answers that are not as due; a test ends with finish(). */
final class Check {
    private static int done = 0;
    private static int wrong = 0;
    private static String sentence = "";

    private Check() { }

    /** The document's own words that the next answers are about; a wrong answer is told with them. */
    static void sentence(String words) {
        sentence = "\"" + words + "\": ";
    }

    static void same(String what, long got, long due) {
        done++;
        if (got != due) {
            wrong++;
            System.out.println(sentence + what + " answered " + got + ", due is " + due);
        }
    }

    static void yes(String what, boolean got) {
        same(what, got ? 1 : 0, 1);
    }

    static void no(String what, boolean got) {
        same(what, got ? 1 : 0, 0);
    }

    static void finish() {
        System.out.println(done + " answers looked at, " + wrong + " wrong");
        if (wrong != 0 || done == 0) {
            System.exit(1);
        }
    }
}
