/** Counts and prints the answers that are not the ones due. */
final class Due {
    private static int asked = 0;
    private static int wrong = 0;
    private static String heading = "";

    private Due() {
    }

    /** Names the promise, and those words of it that the answers from here on belong to. */
    static void promise(int number, String words) {
        heading = "promise " + number + ", \"" + words + "\": ";
    }

    /** Likewise for words under "What it is" and "Terms". */
    static void terms(String words) {
        heading = "terms, \"" + words + "\": ";
    }

    static void due(String call, long got, long want) {
        asked++;
        if (got != want) {
            wrong++;
            System.out.println(heading + call + " answered " + got + ", due is " + want);
        }
    }

    static boolean anyWrong() {
        return wrong != 0;
    }

    static void end() {
        System.out.println(asked + " answers, " + wrong + " not as due");
        if (wrong != 0) {
            System.exit(1);
        }
    }
}
