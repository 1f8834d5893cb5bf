/** Holds a test's answers against those that are due, and ends the test with exit code 1 if one was wrong. */
final class Due {
    private final String test;
    private String sentence = "";
    private int answers = 0;
    private int answersOfSentence = 1;
    private int wrong = 0;

    Due(String test) {
        this.test = test;
    }

    /** An object with parties 1 to customers beside the house and kinds 0 to kinds - 1. */
    static KegDeposits object(int customers, int kinds) {
        KegDeposits x = new KegDeposits();
        for (int i = 0; i < customers; i++) {
            x.party();
        }
        for (int i = 0; i < kinds; i++) {
            x.kind();
        }
        return x;
    }

    /** The document's words by which the answers from here on are due. */
    void sentence(String words) {
        endSentence();
        sentence = words;
        answersOfSentence = 0;
    }

    void is(String call, long got, long want) {
        answers++;
        answersOfSentence++;
        if (got != want) {
            wrong++;
            System.out.println(test + ": " + call + " answered " + got + ", due is " + want
                    + (sentence.isEmpty() ? "" : " (" + sentence + ")"));
        }
    }

    void done(String call, boolean got) {
        is(call, got ? 1 : 0, 1);
    }

    void refused(String call, boolean got) {
        is(call, got ? 1 : 0, 0);
    }

    void rest(KegDeposits x, int kind, long above, long below) {
        is("rest(" + kind + ", 0)", x.rest(kind, 0), above);
        is("rest(" + kind + ", 1)", x.rest(kind, 1), below);
    }

    void end() {
        endSentence();
        System.out.println(test + ": " + answers + " answers, " + wrong + " wrong");
        if (wrong != 0 || answers == 0) {
            System.exit(1);
        }
    }

    private void endSentence() {
        if (answersOfSentence == 0) {
            wrong++;
            System.out.println(test + ": no answer was held against: " + sentence);
        }
    }
}
