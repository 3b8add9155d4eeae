/** Compares answers with those that are due, prints the wrong ones, and ends a test. */
final class Due {
    private static int compared = 0;
    private static int wrong = 0;
    private static int sentences = 0;
    private static String sentence = "";

    private Due() {
    }

    /** Begins the test of one sentence of the document: wrong answers are told with it. */
    static void promise(int number, String words) {
        sentences++;
        sentence = "promise " + number + ", \"" + words + "\": ";
    }

    static void due(String call, long got, long want) {
        compared++;
        if (got != want) {
            wrong++;
            System.out.println(sentence + call + " answered " + got + ", due is " + want);
        }
    }

    static void due(String call, boolean got, boolean want) {
        due(call, got ? 1L : 0L, want ? 1L : 0L);
    }

    static void finish() {
        String of = sentences == 0 ? "" : sentences + " sentences, ";
        System.out.println(of + compared + " answers compared, " + wrong + " wrong");
        if (wrong != 0 || compared == 0) {
            System.exit(1);
        }
    }
}
