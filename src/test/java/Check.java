/** Counts answers that are as due and prints those that are not. */
final class Check {
    private int passed;
    private int failed;
    private String sentence = "";

    /** The document's words that the answers from here on are due by. */
    void says(String words) {
        sentence = "\"" + words + "\" ";
    }

    void due(String call, int got, int want) {
        if (got == want) {
            passed++;
        } else {
            failed++;
            System.out.println(sentence + call + " answered " + got + ", due is " + want);
        }
    }

    int failures() {
        return failed;
    }

    void end() {
        System.out.println(passed + " passed, " + failed + " failed");
        if (failed != 0) {
            System.exit(1);
        }
    }
}
