/** Counts and prints answers that are not the ones due. */
final class Due {
    private int wrong = 0;
    private String part = "";

    void part(String name) {
        part = name;
    }

    void is(String call, long want, long got) {
        if (got != want) {
            wrong++;
            System.out.println(part + ": " + call + " answered " + got + ", due is " + want);
        }
    }

    void is(String call, boolean want, boolean got) {
        is(call, want ? 1 : 0, got ? 1 : 0);
    }

    /** A call that must be refused: its answer, and its trouble. */
    void refused(String call, long want, long got, SevenLeague x, int trouble) {
        is(call, want, got);
        is(call + ", trouble()", trouble, x.trouble());
    }

    void refused(String call, long got, SevenLeague x, int trouble) {
        refused(call, SevenLeague.NONE, got, x, trouble);
    }

    void end() {
        System.out.println(wrong == 0 ? "all answers are as due" : wrong + " answers are not as due");
        if (wrong != 0) System.exit(1);
    }
}
