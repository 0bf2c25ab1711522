/** Counts and prints the answers that are not the ones that are due. */
final class Due {
    private int wrong = 0;
    private String part = "";

    /** Names what the answers that follow belong to. */
    void part(String name) {
        part = name;
    }

    void is(String call, long got, long want) {
        if (got != want) {
            wrong++;
            System.out.println(part + ": " + call + " answered " + got + ", due is " + want);
        }
    }

    void holds(String what, boolean truth) {
        if (!truth) {
            wrong++;
            System.out.println(part + ": does not hold: " + what);
        }
    }

    /** Ends the program, with exit code 1 if an answer was wrong. */
    void end() {
        if (wrong > 0) {
            System.out.println(wrong + " answers are not as due");
            System.exit(1);
        }
    }
}
