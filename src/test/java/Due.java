/** Compares answers with those that are due, and ends the test with exit code 1 if one was not. */
final class Due {
    private int asked;
    private int wrong;

    void is(String call, int got, int want) {
        asked++;
        if (got != want) {
            wrong++;
            System.out.println(call + " answered " + got + ", due is " + want);
        }
    }

    void is(String call, boolean got, boolean want) {
        is(call, got ? 1 : 0, want ? 1 : 0);
    }

    /** A new object that has read a text without a FAULT. */
    QuietTake told(String text) {
        QuietTake x = new QuietTake();
        is("read of " + text, Feeding.read(x, text), 0);
        return x;
    }

    void end() {
        System.out.println(asked + " answers, " + wrong + " not as due");
        if (wrong != 0) {
            System.exit(1);
        }
    }
}
