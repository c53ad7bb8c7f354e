/** Counts cases and tells each call whose answer is not the one that is due. */
class Due {
    private int cases;
    private int wrongCases;
    private boolean isWrong;
    private String name = "";

    /** Begins a case; it lasts until the next one. */
    void of(String caseName) {
        close();
        cases++;
        name = caseName;
    }

    void is(String call, long got, long want) {
        if (got != want) {
            isWrong = true;
            System.out.println(name + ": " + call + " answered " + got + ", due is " + want);
        }
    }

    void holds(String what, boolean got) {
        if (!got) {
            isWrong = true;
            System.out.println(name + ": not so: " + what);
        }
    }

    private void close() {
        if (isWrong) {
            wrongCases++;
        }
        isWrong = false;
    }

    /** Ends the program, with 1 if a case was wrong. */
    void end() {
        close();
        System.out.println(cases + " cases, " + wrongCases + " wrong");
        if (wrongCases > 0) {
            System.exit(1);
        }
    }
}
