/** Counts the calls whose answer is not the one that is due, and prints each of them. */
final class Due {
    private int wrong = 0;
    private int asked = 0;

    void is(String call, long got, long want) {
        asked++;
        if (got == want) return;
        wrong++;
        System.out.println(call + " answered " + got + ", due is " + want);
    }

    void holds(String what, boolean held) {
        asked++;
        if (held) return;
        wrong++;
        System.out.println(what);
    }

    /** Ends the test: with exit code 1 if an answer was wrong, or if nothing was asked. */
    void end(String test) {
        System.out.println(test + ": " + asked + " answers, " + wrong + " wrong");
        if (wrong != 0 || asked == 0) System.exit(1);
    }
}
