/** Holds a test's answers against those that are due, and ends the test with exit code 1 if one was wrong. */
final class Due {
    private final String test;
    private int answers = 0;
    private int wrong = 0;

    Due(String test) {
        this.test = test;
    }

    /** An object with parties 1 to customers beside the house and kinds 0 to kinds - 1. */
    static KegDeposits object(int customers, int kinds) {
        KegDeposits x = new KegDeposits();
        for (int i = 0; i < customers; i++) {
            x.party();
        }
        for (int i = 0; i < kinds; i++) {
            x.kind();
        }
        return x;
    }

    void is(String call, long got, long want) {
        answers++;
        if (got != want) {
            wrong++;
            System.out.println(test + ": " + call + " answered " + got + ", due is " + want);
        }
    }

    void done(String call, boolean got) {
        is(call, got ? 1 : 0, 1);
    }

    void refused(String call, boolean got) {
        is(call, got ? 1 : 0, 0);
    }

    void rest(KegDeposits x, int kind, long above, long below) {
        is("rest(" + kind + ", 0)", x.rest(kind, 0), above);
        is("rest(" + kind + ", 1)", x.rest(kind, 1), below);
    }

    void end() {
        System.out.println(test + ": " + answers + " answers, " + wrong + " wrong");
        if (wrong != 0 || answers == 0) {
            System.exit(1);
        }
    }
}
