/** Counts answers that are not the ones that are due, and prints them. */
final class Checks {
    private static final int MOST_PRINTED = 20;
    private int wrong = 0;
    private int asked = 0;
    private int printed = 0;
    private String sentence = "";

    /** The sentence of the document that the next answers are about; each has its first wrong ones printed. */
    void sentence(String words) {
        sentence = "\"" + words + "\": ";
        printed = 0;
    }

    void due(String what, long got, long want) {
        asked++;
        if (got != want) {
            wrong++;
            printed++;
            if (printed <= MOST_PRINTED) {
                System.out.println(sentence + what + " answered " + got + ", due is " + want);
            }
        }
    }

    void due(String what, boolean got, boolean want) {
        due(what, got ? 1 : 0, want ? 1 : 0);
    }

    /** The closing line, and exit code 1 if something was wrong or nothing was asked. */
    void close(String name) {
        System.out.println(name + ": " + (asked - wrong) + " of " + asked + " answers are as due");
        if (wrong != 0 || asked == 0) {
            System.exit(1);
        }
    }
}
