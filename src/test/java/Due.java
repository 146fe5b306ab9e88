/** Counts the answers of a test that are not as due, and ends the test. */
final class Due {
    private int wrong;
    private int asked;
    private String sentence = "";

    /** The sentence of the document that the next answers are due by. */
    void sentence(String words) {
        sentence = words + ": ";
    }

    void due(String call, long got, long want) {
        asked++;
        if (got != want) {
            wrong++;
            System.out.println(sentence + call + " answered " + got + ", due is " + want);
        }
    }

    void end() {
        System.out.println(wrong == 0 ? "all " + asked + " answers are as due" : wrong + " answers are not as due");
        if (wrong != 0) {
            System.exit(1);
        }
    }
}
