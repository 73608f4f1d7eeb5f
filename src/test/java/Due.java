import java.util.Set;
import java.util.TreeSet;

/** Counts and prints answers that are not the ones due. */
final class Due {
    private int wrong = 0;
    private String part = "";
    private final Set<Integer> promises = new TreeSet<>();

    void part(String name) {
        part = name;
    }

    /** The checks behind it stand for these words of a promise; they must be in the document as they are. */
    void promise(int number, String words) {
        part = "promise " + number + ", '" + words + "'";
        promises.add(number);
        is("the document says so", true, Doc.promise(number).contains(words));
    }

    /** Likewise for words of the terms, or of what the document says ahead of them. */
    void term(String words) {
        part = "terms, '" + words + "'";
        is("the document says so", true, Doc.terms().contains(words) || Doc.whatItIs().contains(words));
    }

    /** All promises from one to another have had a test of their own. */
    void had(int from, int to) {
        part = "promises " + from + " to " + to;
        for (int number = from; number <= to; number++) is("promise " + number + " has a test", true, promises.contains(number));
    }

    void is(String call, long want, long got) {
        if (got != want) {
            wrong++;
            System.out.println(part + ": " + call + " answered " + got + ", due is " + want);
        }
    }

    void is(String call, boolean want, boolean got) {
        is(call, want ? 1 : 0, got ? 1 : 0);
    }

    /** A call that must be refused: its answer, and its trouble. */
    void refused(String call, long want, long got, SevenLeague x, int trouble) {
        is(call, want, got);
        is(call + ", trouble()", trouble, x.trouble());
    }

    void refused(String call, long got, SevenLeague x, int trouble) {
        refused(call, SevenLeague.NONE, got, x, trouble);
    }

    /** A call that must be answered, -2 being an answer too. */
    void granted(String call, long want, long got, SevenLeague x) {
        is(call, want, got);
        is(call + ", trouble()", 0, x.trouble());
    }

    void end() {
        System.out.println(wrong == 0 ? "all answers are as due" : wrong + " answers are not as due");
        if (wrong != 0) System.exit(1);
    }
}
