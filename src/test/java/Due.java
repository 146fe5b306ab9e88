/** Counts the answers of a test that are not as due, and ends the test. */
final class Due {
    private int wrong;
    private int asked;

    void due(String call, long got, long want) {
        asked++;
        if (got != want) {
            wrong++;
            System.out.println(call + " answered " + got + ", due is " + want);
        }
    }

    void end() {
        System.out.println(wrong == 0 ? "all " + asked + " answers are as due" : wrong + " answers are not as due");
        if (wrong != 0) {
            System.exit(1);
        }
    }

    /** Types a text behind THE TEXT. */
    static void type(WantedLater x, String text) {
        for (int i = 0; i < text.length(); i++) {
            x.type(text.charAt(i));
        }
    }

    /** What reading just this text answers. */
    static int read(WantedLater x, String text) {
        x.clear();
        type(x, text);
        return x.read();
    }
}
