/** Counts the answers that are not the ones due, prints them, and ends a test with exit code 1 if there was one. */
final class Due {
    private int wrong = 0;
    private int looked = 0;

    void is(String what, long want, long got) {
        looked++;
        if (got != want) {
            wrong++;
            System.out.println(what + " answered " + got + ", due is " + want);
        }
    }

    void is(String what, boolean want, boolean got) {
        is(what, want ? 1 : 0, got ? 1 : 0);
    }

    boolean hasWrong() {
        return wrong > 0;
    }

    void end() {
        System.out.println(looked + " answers, " + wrong + " not as due");
        if (wrong > 0 || looked == 0) {
            System.exit(1);
        }
    }
}
