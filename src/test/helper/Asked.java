/** Counts the answers that a test asks for and tells the wrong ones. */
final class Asked {
    private static int asked = 0;
    private static int wrong = 0;

    private Asked() {
    }

    static void due(String call, long got, long want) {
        asked++;
        if (got != want) {
            wrong(call + " answered " + got + ", due is " + want);
        }
    }

    static void wrong(String what) {
        wrong++;
        System.out.println(what);
    }

    /** Ends the test: with exit code 1 if an answer was not the one that is due. */
    static void end() {
        System.out.println(asked + " answers asked, " + wrong + " are not as due");
        if (wrong != 0) {
            System.exit(1);
        }
    }
}
