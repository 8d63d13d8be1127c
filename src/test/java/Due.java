/** Compares answers with those that are due, and ends the test with exit code 1 if one differs. */
final class Due {
    private int wrong = 0;
    private int asked = 0;

    void is(String call, long got, long want) {
        asked++;
        if (got != want) {
            wrong++;
            System.out.println(call + " answered " + got + ", due is " + want);
        }
    }

    void isTrue(String what, boolean holds) {
        asked++;
        if (!holds) {
            wrong++;
            System.out.println("does not hold: " + what);
        }
    }

    /** What a call answers and what why() tells behind it. */
    void isFound(String call, long got, InnerCaptures x, long want, int why) {
        is(call, got, want);
        is("why() behind " + call, x.why(), why);
    }

    void end() {
        System.out.println(asked + " answers, " + wrong + " of them not as due");
        if (wrong != 0) {
            System.exit(1);
        }
    }
}
