/** Counts and prints the answers that are not the ones that are due. */
final class Due {
    private int wrong = 0;
    private String part = "";

    /** Names what the answers that follow belong to. */
    void part(String name) {
        part = name;
    }

    void is(String call, long got, long want) {
        if (got != want) {
            wrong++;
            System.out.println(part + ": " + call + " answered " + got + ", due is " + want);
        }
    }

    void holds(String what, boolean truth) {
        if (!truth) {
            wrong++;
            System.out.println(part + ": does not hold: " + what);
        }
    }

    /** Compares two texts of many lines, and tells the first line that is not the one that is due. */
    void same(String what, String got, String want) {
        String[] gotLines = got.split("\n");
        String[] wantLines = want.split("\n");
        for (int i = 0; i < Math.max(gotLines.length, wantLines.length); i++) {
            String gotLine = i < gotLines.length ? gotLines[i] : "(nothing)";
            String wantLine = i < wantLines.length ? wantLines[i] : "(nothing)";
            if (!gotLine.equals(wantLine)) {
                wrong++;
                System.out.println(part + ": " + what + ": '" + gotLine + "', due is '" + wantLine + "'");
                return;
            }
        }
    }

    /** Ends the program, with exit code 1 if an answer was wrong. */
    void end() {
        if (wrong > 0) {
            System.out.println(wrong + " answers are not as due");
            System.exit(1);
        }
    }
}
