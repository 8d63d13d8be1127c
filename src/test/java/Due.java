/** Compares answers with those that are due, and ends the test with exit code 1 if one differs. */
final class Due {
    private int wrong = 0;
    private int asked = 0;
    private String topic = "";

    /** The promise and the sentence that the answers behind this call are about. */
    void promise(int number, String sentence) {
        topic = "promise " + number + " (" + sentence + "): ";
    }

    void is(String call, long got, long want) {
        asked++;
        if (got != want) {
            wrong++;
            System.out.println(topic + call + " answered " + got + ", due is " + want);
        }
    }

    void isTrue(String what, boolean holds) {
        asked++;
        if (!holds) {
            wrong++;
            System.out.println(topic + "does not hold: " + what);
        }
    }

    /** What a call answers and what why() tells behind it. */
    void isFound(String call, long got, InnerCaptures x, long want, int why) {
        is(call, got, want);
        is("why() behind " + call, x.why(), why);
    }

    void end() {
        System.out.println(asked + " answers, " + wrong + " of them not as due");
        if (wrong != 0) {
            System.exit(1);
        }
    }
}
