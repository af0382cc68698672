/** Compares answers, prints each that is not the one due, and ends the test's run. */
final class Check {
    private int wrong = 0;
    private int looked = 0;
    private String sentence = "";

    /** What the document says; it is printed ahead of each answer behind it that does not hold. */
    void says(String words) {
        sentence = "\"" + words + "\": ";
    }

    void due(String call, long got, long want) {
        looked++;
        if (got != want) {
            wrong++;
            System.out.println(sentence + call + " answered " + got + ", due is " + want);
        }
    }

    void holds(String what, boolean is) {
        due(what, is ? 1 : 0, 1);
    }

    void end() {
        System.out.println(looked + " answers, " + wrong + " not as due");
        if (wrong != 0) {
            System.exit(1);
        }
    }
}
