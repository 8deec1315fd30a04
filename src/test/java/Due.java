/** Counts answers that are as due and those that are not. */
final class Due {
    private final String name;
    private int right;
    private int wrong;

    Due(String name) {
        this.name = name;
    }

    void is(String call, long got, long want) {
        if (got == want) {
            right++;
            return;
        }
        wrong++;
        if (wrong <= 40) System.out.println(name + ": " + call + " answered " + got + ", due is " + want);
    }

    void holds(String what, boolean so) {
        is(what, so ? 1 : 0, 1);
    }

    /** Ends the program: with exit code 1 if an answer was wrong. */
    void end() {
        System.out.println(name + ": " + right + " as due, " + wrong + " not as due");
        System.exit(wrong == 0 ? 0 : 1);
    }
}
