/** Compares answers with those that are due, and ends the test with exit code 1 if one was not. */
final class Due {
    static final int INVALID = -2000000001;
    static final int IMPOSSIBLE = -2000000002;
    static final int LIMIT = -2000000003;
    static final int MISSING = -2000000004;

    private final String test;
    private String part = "";
    private int answers = 0;
    private int wrong = 0;

    Due(String test) {
        this.test = test;
    }

    /** Names what is tested next, and gives a new object for it. */
    PartedSums start(String nextPart) {
        part = nextPart;
        return new PartedSums();
    }

    /** Names the words of the document that are tested next, and gives a new object for them. */
    PartedSums sentence(String section, String... words) {
        PartedSums x = start(section + ", " + String.join(" / ", words));
        for (String clause : words) {
            is("the document says this", Document.quote(section, clause) ? 1 : 0, 1);
        }
        return x;
    }

    void is(String call, long got, long want) {
        answers++;
        if (got != want) {
            wrong++;
            System.out.println(part + ": " + call + " answered " + got + ", due is " + want);
        }
    }

    void same(String call, String got, String want) {
        answers++;
        if (!got.equals(want)) {
            wrong++;
            System.out.println(part + ": " + call + " " + got + ", due: " + want);
        }
    }

    /** Types a text behind what there is. */
    static void type(PartedSums sums, String text) {
        for (int k = 0; k < text.length(); k++) {
            sums.type(text.charAt(k));
        }
    }

    /** Empties the text and types another one. */
    static void retype(PartedSums sums, String text) {
        sums.clearText();
        type(sums, text);
    }

    void end() {
        System.out.println(test + ": " + answers + " answers, " + wrong + " not as due");
        if (wrong != 0 || answers == 0) {
            System.exit(1);
        }
    }
}
