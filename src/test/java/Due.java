/** Compares answers with those that are due, prints the wrong ones, and ends a test. */
final class Due {
    private long passed;
    private long failed;
    private String sentence = "";

    /** The document's sentence that the answers from here on are due by. */
    void by(String promise) {
        sentence = "[" + promise + "] ";
    }

    void is(String call, long got, long want) {
        if (got == want) {
            passed++;
            return;
        }
        fail(call + " answered " + got + ", due is " + want);
    }

    void fail(String text) {
        failed++;
        if (failed <= 50) {
            System.out.println(sentence + text);
        }
    }

    void isTrue(String what, boolean holds) {
        is(what, holds ? 1 : 0, 1);
    }

    /** A fraction's two numbers. */
    void isFraction(String call, long upper, long lower, long wantUpper, long wantLower) {
        is(call + ", upper", upper, wantUpper);
        is(call + ", lower", lower, wantLower);
    }

    void end() {
        System.out.println(passed + " passed, " + failed + " failed");
        if (failed > 0) {
            System.exit(1);
        }
    }
}
