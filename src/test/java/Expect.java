/** Counts the answers that are not as due, and tells each. */
final class Expect {
    private int asked;
    private int wrong;

    void same(String what, long got, long due) {
        asked++;
        if (got != due) {
            wrong++;
            System.out.println(what + " answered " + got + ", due is " + due);
        }
    }

    void holds(String what, boolean got) {
        same(what, got ? 1 : 0, 1);
    }

    void fails(String what, boolean got) {
        same(what, got ? 1 : 0, 0);
    }

    int asked() {
        return asked;
    }

    boolean isWrong() {
        return wrong > 0;
    }

    /** Ends the test: with 1, if an answer was wrong or none was asked. */
    void end(String test) {
        System.out.println(test + ": " + asked + " answers, " + wrong + " not as due");
        if (wrong > 0 || asked == 0) {
            System.exit(1);
        }
    }
}
