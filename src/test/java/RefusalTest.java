import java.util.ArrayList;
import java.util.List;
import java.util.NoSuchElementException;
import java.util.Set;
import java.util.TreeSet;
import java.util.function.Supplier;
import java.util.regex.Matcher;
import java.util.regex.Pattern;

/**
 * Each refusal that the document names: the answer, the trouble that it leaves, and that nothing else is changed by it. A refused
 * call is made on one of two objects of like past; all that can be found out of both must be alike then.
 */
public final class RefusalTest {
    private static final Due due = new Due();

    private interface Call {
        long on(SevenLeague x);
    }

    private record State(String name, Supplier<SevenLeague> made) {
    }

    private record Refusal(int promise, int trouble, String call, long answer, Call made) {
    }

    private static final String RUDGE = "land cells 20 son 2 curate 9 gout 50;ground bog 5 7;ground wood 10 11;boots seven 7;boots four 4;"
            + "place rudge at 2 folk 5;place ware at 9 folk 10;place hall at 13 folk 20;place end at 18 folk 3;stride seven up;unsure 1;"
            + "seen 5 gone;seen 12 there";
    private static final String HEATH = "land cells 12 son 4 curate 6 gout 25;boots two 2;boots three 3;place far at 1 folk 7";

    private static final State NEW = new State("a new object", RefusalTest::fedAlone);
    private static final State FAULTY = new State("a fault and no land", RefusalTest::faulty);
    private static final State FRESH = new State("a land just told", () -> Tapes.landed(RUDGE));
    private static final State RICH = new State("acts, images, a tape", RefusalTest::rich);
    private static final State FULL = new State("no room left", RefusalTest::full);
    private static final State OLD = new State("999 years", RefusalTest::old);

    private static final State EDGE = new State("at the edges", RefusalTest::edge);
    private static final State BACK = new State("gone back to an image", RefusalTest::goneBack);
    private static final State EMPTY = new State("acts, images, an empty tape", RefusalTest::emptyTape);
    private static final int NO_LED = -77;

    public static void main(String[] args) {
        List<Refusal> old = List.of(new Refusal(55, 3, "year()", -1, x -> x.year()));
        check(withoutLand(), NEW, FAULTY);
        check(wrongArguments(), FRESH, RICH, FULL, BACK);
        check(atEdges(), EDGE);
        check(noRoom(), FULL, BACK);
        check(nothingToUndo(), NEW, FRESH, BACK);
        check(faults(), EMPTY);
        check(withoutNumber(0), FULL);
        check(old, OLD);
        askingChangesNothing();
        List<Refusal> all = new ArrayList<>(old);
        for (List<Refusal> some : List.of(withoutLand(), wrongArguments(), atEdges(), noRoom(), nothingToUndo(), faults())) all.addAll(some);
        allAreTested(all);
        due.end();
    }

    // ---- objects to refuse calls

    private static SevenLeague fedAlone() {
        SevenLeague x = new SevenLeague();
        Tapes.feed(x, HEATH);
        return x;
    }

    private static SevenLeague faulty() {
        SevenLeague x = new SevenLeague();
        Tapes.feed(x, "land cells 9 son 4 curate 0 gout 0;boots b 10");
        x.land(45);
        Tapes.feed(x, HEATH);
        return x;
    }

    private static SevenLeague rich() {
        SevenLeague x = emptyTape();
        Tapes.feed(x, HEATH);
        return x;
    }

    private static SevenLeague emptyTape() {
        SevenLeague x = Tapes.landed(RUDGE);
        x.stride(1, 0);
        x.image();
        x.step(1);
        x.year();
        x.image();
        x.fill(5);
        x.stride(1, 1);
        x.step(1);
        Tapes.feed(x, "%");
        x.land(1);
        return x;
    }

    private static SevenLeague edge() {
        SevenLeague x = Tapes.landed(RUDGE);
        x.image();
        for (int i = 0; i < 10; i++) x.step(0);
        x.stride(0, 0);
        return x;
    }

    private static SevenLeague goneBack() {
        SevenLeague x = full();
        x.back(1);
        return x;
    }

    private static SevenLeague full() {
        SevenLeague x = Tapes.landed(RUDGE);
        for (int i = 0; i < 3; i++) {
            x.image();
            x.year();
        }
        x.stride(1, 0);
        for (int i = 0; i < 20; i++) x.step(i % 3 == 0 ? 1 : 0);
        Tapes.feed(x, HEATH + " ".repeat(900 - HEATH.length()));
        return x;
    }

    private static SevenLeague old() {
        SevenLeague x = Tapes.landed(RUDGE);
        for (int i = 0; i < 999; i++) x.year();
        return x;
    }

    // ---- what is refused

    private static final class Table {
        final List<Refusal> all = new ArrayList<>();

        void none(int promise, int trouble, String call, Call made) {
            all.add(new Refusal(promise, trouble, call, -1, made));
        }

        void other(int promise, int trouble, String call, long answer, Call made) {
            all.add(new Refusal(promise, trouble, call, answer, made));
        }
    }

    /** Calls that would be fine if there were a land; those that would not be are refused for the land that isn't, too. */
    private static List<Refusal> withoutLand() {
        Table t = new Table();
        t.none(3, 2, "land(-1)", x -> x.land(-1));
        t.none(3, 2, "land(901)", x -> x.land(901));
        for (int k : new int[] {0, 7, -1}) {
            t.none(6, 1, "cell(" + k + ", 0)", x -> x.cell(k, 0));
            t.none(7, 1, "place(" + k + ", 0)", x -> x.place(k, 0));
            t.none(8, 1, "boots(" + k + ")", x -> x.boots(k));
            t.none(16, 1, "between(" + k + ", 0)", x -> x.between(k, 0));
            t.none(17, 1, "deep(" + k + ", 0)", x -> x.deep(k, 0));
            t.none(21, 1, "backIn(" + k + ")", x -> x.backIn(k));
            t.none(28, 1, "come(" + k + ")", x -> x.come(k));
            t.none(29, 1, "comeAt(" + k + ", 0)", x -> x.comeAt(k, 0));
            t.none(30, 1, "spare(" + k + ")", x -> x.spare(k));
            t.none(31, 1, "spareRow(" + k + ")", x -> x.spareRow(k));
            t.none(34, 1, "over(" + k + ")", x -> x.over(k));
            t.none(39, 1, "steps(" + k + ")", x -> x.steps(k));
            t.none(41, 1, "fitAt(" + k + ")", x -> x.fitAt(k));
            t.none(56, 1, "fill(" + k + ")", x -> x.fill(k));
            t.other(59, 1, "back(" + k + ")", 0, x -> x.back(k) ? 1 : 0);
        }
        withoutArguments(t);
        withNumbers(t);
        return t.all;
    }

    private static void withoutArguments(Table t) {
        t.none(9, 1, "son()", x -> x.son());
        t.none(10, 1, "curate()", x -> x.curate());
        t.none(11, 1, "gone()", x -> x.gone());
        t.none(12, 1, "lost()", x -> x.lost());
        t.none(13, 1, "stretches()", x -> x.stretches());
        t.none(14, 1, "longest()", x -> x.longest());
        t.none(15, 1, "widest()", x -> x.widest());
        t.none(18, 1, "nearest()", x -> x.nearest());
        t.none(22, 1, "stillIn()", x -> x.stillIn());
        t.none(35, 1, "never()", x -> x.never());
        t.none(40, 1, "fits()", x -> x.fits());
        t.none(42, 1, "could()", x -> x.could());
        t.none(43, 1, "surely()", x -> x.surely());
        t.none(44, 1, "ask()", x -> x.ask());
        t.none(45, 1, "askLeaves()", x -> x.askLeaves());
        t.none(46, 1, "judge()", x -> x.judge());
        t.none(55, 1, "year()", x -> x.year());
        t.none(58, 1, "image()", x -> x.image());
        t.other(57, 6, "undo()", 0, x -> x.undo() ? 1 : 0);
    }

    private static void withNumbers(Table t) {
        for (int n : new int[] {0, 1, -1, 99}) {
            t.none(19, 1, "goneIn(" + n + ")", x -> x.goneIn(n));
            t.none(20, 1, "lostIn(" + n + ")", x -> x.lostIn(n));
            t.none(23, 1, "leads(0, " + n + ")", x -> x.leads(0, n));
            t.none(24, 1, "passes(0, " + n + ")", x -> x.passes(0, n));
            t.none(25, 1, "costs(0, " + n + ")", x -> x.costs(0, n));
            t.none(26, 1, "rowLeads(0, " + n + ")", x -> x.rowLeads(0, n));
            t.none(27, 1, "rowLost(0, " + n + ")", x -> x.rowLost(0, n));
            t.none(32, 1, "reach(" + n + ")", x -> x.reach(n));
            t.none(33, 1, "sum(" + n + ")", x -> x.sum(n));
            t.none(36, 1, "tour(" + n + ")", x -> x.tour(n));
            t.none(37, 1, "tourGone(" + n + ")", x -> x.tourGone(n));
            t.none(38, 1, "tourAt(" + n + ", 0)", x -> x.tourAt(n, 0));
            t.other(47, 1, "goes(" + n + ", ..)", -100, x -> x.goes(n, true, false, true));
            t.none(48, 1, "rests(" + n + ")", x -> x.rests(n));
            t.none(49, 1, "rest(" + n + ")", x -> x.rest(n));
            t.none(50, 1, "odds(0, 0, " + n + ", true)", x -> x.odds(0, 0, n, true));
            t.none(51, 1, "mean(0, " + n + ", true)", x -> x.mean(0, n, true));
            t.none(52, 1, "drawn(0, 0, " + n + ")", x -> x.drawn(0, 0, n));
            t.none(53, 1, "stride(0, " + n + ")", x -> x.stride(0, n));
            t.none(54, 1, "step(" + n + ")", x -> x.step(n));
        }
    }

    /** The land has 20 cells, 4 places, 2 pairs of boots; the son is at 9, where he came by a stride of seven. */
    private static List<Refusal> wrongArguments() {
        Table t = new Table();
        t.none(3, 2, "land(-1)", x -> x.land(-1));
        t.none(3, 2, "land(901)", x -> x.land(901));
        for (int k : new int[] {-1, 20, 64, Integer.MIN_VALUE, Integer.MAX_VALUE}) {
            t.none(6, 1, "cell(" + k + ", 1)", x -> x.cell(k, 1));
            t.none(6, 1, "cell(1, " + k + ")", x -> x.cell(1, k));
            t.none(7, 1, "place(" + k + ", 0)", x -> x.place(k, 0));
            t.none(7, 1, "place(0, " + k + ")", x -> x.place(0, k));
            t.none(8, 1, "boots(" + k + ")", x -> x.boots(k));
            t.none(16, 1, "between(" + k + ", 0)", x -> x.between(k, 0));
            t.none(16, 1, "between(19, " + k + ")", x -> x.between(19, k));
            t.none(17, 1, "deep(" + k + ", 0)", x -> x.deep(k, 0));
            t.none(17, 1, "deep(19, " + k + ")", x -> x.deep(19, k));
            t.none(21, 1, "backIn(" + k + ")", x -> x.backIn(k));
            t.none(28, 1, "come(" + k + ")", x -> x.come(k));
            t.none(29, 1, "comeAt(" + k + ", 0)", x -> x.comeAt(k, 0));
            t.none(29, 1, "comeAt(16, " + k + ")", x -> x.comeAt(16, k));
            t.none(30, 1, "spare(" + k + ")", x -> x.spare(k));
            t.none(31, 1, "spareRow(" + k + ")", x -> x.spareRow(k));
            t.none(34, 1, "over(" + k + ")", x -> x.over(k));
            t.none(38, 1, "tourAt(3, " + k + ")", x -> x.tourAt(3, k));
            t.none(39, 1, "steps(" + k + ")", x -> x.steps(k));
            t.none(41, 1, "fitAt(" + k + ")", x -> x.fitAt(k));
            t.none(50, 1, "odds(" + k + ", 1, 1, false)", x -> x.odds(k, 1, 1, false));
            t.none(53, 1, "stride(" + k + ", 0)", x -> x.stride(k, 0));
            t.none(56, 1, "fill(" + k + ")", x -> x.fill(k));
            t.other(59, 1, "back(" + k + ")", 0, x -> x.back(k) ? 1 : 0);
        }
        for (int b : new int[] {-1, 2}) {
            t.none(23, 1, "leads(" + b + ", 0)", x -> x.leads(b, 0));
            t.none(24, 1, "passes(" + b + ", 0)", x -> x.passes(b, 0));
            t.none(25, 1, "costs(" + b + ", 0)", x -> x.costs(b, 0));
        }
        wrongNumbers(t);
        wrongRows(t);
        notSo(t);
        return t.all;
    }

    private static void wrongNumbers(Table t) {
        for (int n : new int[] {-1, 61, 65537, Integer.MIN_VALUE, Integer.MAX_VALUE}) {
            t.none(19, 2, "goneIn(" + n + ")", x -> x.goneIn(n));
            t.none(20, 2, "lostIn(" + n + ")", x -> x.lostIn(n));
            t.none(23, 2, "leads(0, " + n + ")", x -> x.leads(0, n));
            t.none(24, 2, "passes(0, " + n + ")", x -> x.passes(0, n));
            t.none(25, 2, "costs(0, " + n + ")", x -> x.costs(0, n));
            t.none(32, 2, "reach(" + n + ")", x -> x.reach(n));
            t.none(33, 2, "sum(" + n + ")", x -> x.sum(n));
            t.none(36, 2, "tour(" + n + ")", x -> x.tour(n));
            t.none(37, 2, "tourGone(" + n + ")", x -> x.tourGone(n));
            t.none(38, 2, "tourAt(" + n + ", 0)", x -> x.tourAt(n, 0));
            t.other(47, 2, "goes(" + n + ", ..)", -100, x -> x.goes(n, false, true, false));
            t.none(48, 2, "rests(" + n + ")", x -> x.rests(n));
            t.none(49, 2, "rest(" + n + ")", x -> x.rest(n));
            t.none(53, 2, "stride(0, " + n + ")", x -> x.stride(0, n));
            t.none(54, 2, "step(" + n + ")", x -> x.step(n));
        }
        for (int seed : new int[] {-1, 65537}) t.none(52, 2, "drawn(1, 1, " + seed + ")", x -> x.drawn(1, 1, seed));
    }

    private static void wrongRows(Table t) {
        int[][] rows = {{0, -1}, {111111, 6}, {5, 1}, {0, 1}, {10, 2}, {1, 2}, {11, 1}, {1, 0}, {-1, 1}, {-11, 2}};
        for (int[] r : rows) {
            String row = "(" + r[0] + ", " + r[1] + ")";
            t.none(26, 2, "rowLeads" + row, x -> x.rowLeads(r[0], r[1]));
            t.none(27, 2, "rowLost" + row, x -> x.rowLost(r[0], r[1]));
            t.none(50, 2, "odds of " + row, x -> x.odds(9, r[0], r[1], true));
            t.none(51, 2, "mean of " + row, x -> x.mean(r[0], r[1], true));
            t.none(52, 2, "drawn of " + row, x -> x.drawn(r[0], r[1], 0));
        }
    }

    private static void notSo(Table t) {
        t.none(56, 5, "fill(0)", x -> x.fill(0));
        t.none(56, 5, "fill(19)", x -> x.fill(19));
    }

    /** Son and curate at the ends of what they can. */
    private static List<Refusal> atEdges() {
        Table t = new Table();
        t.none(53, 5, "stride(0, 0), no such cell", x -> x.stride(0, 0));
        t.none(53, 5, "stride(1, 0), no such cell", x -> x.stride(1, 0));
        t.none(53, 5, "stride(1, 1), gone", x -> x.stride(1, 1));
        t.none(54, 5, "step(0), no such cell", x -> x.step(0));
        t.none(56, 5, "fill(16), the son's", x -> x.fill(16));
        return t.all;
    }

    private static List<Refusal> noRoom() {
        Table t = new Table();
        t.none(58, 3, "image()", x -> x.image());
        return t.all;
    }

    private static List<Refusal> nothingToUndo() {
        Table t = new Table();
        t.other(57, 6, "undo()", 0, x -> x.undo() ? 1 : 0);
        return t.all;
    }

    /** By a fault the tape is empty, but the land stays, with all that was done in it. */
    private static List<Refusal> faults() {
        Table t = new Table();
        t.none(3, 4, "land(0)", x -> x.land(0));
        for (String text : new String[] {"%", RUDGE.replace("boots seven 7", "boots seven %"), RUDGE + ";", HEATH + ";%"}) {
            t.none(3, 4, "land of '" + text + "'", x -> {
                Tapes.feed(x, text);
                return x.land(text.length());
            });
        }
        return t.all;
    }

    /** Calls that refuse without a number: they leave trouble() as it was, too. */
    private static List<Refusal> withoutNumber(int trouble) {
        Table t = new Table();
        t.none(2, trouble, "feed of a full tape", x -> x.feed(1, 2, 3, 4, 5));
        for (int what : new int[] {-1, 11}) t.none(61, trouble, "size(" + what + ")", x -> x.size(what));
        for (int i : new int[] {-1, 99}) {
            t.other(60, trouble, "led(" + i + ")", NO_LED, x -> {
                try {
                    return x.led(i);
                } catch (NoSuchElementException e) {
                    return NO_LED;
                }
            });
        }
        return t.all;
    }

    // ---- checks

    private static void check(List<Refusal> refusals, State... states) {
        for (State state : states) checkIn(state, refusals);
    }

    private static void checkIn(State state, List<Refusal> refusals) {
        List<String> want = Probe.whole(state.made.get());
        for (Refusal r : refusals) {
            due.promise(r.promise, Doc.refusal(r.promise));
            SevenLeague x = state.made.get();
            due.refused(state.name + ": " + r.call, r.answer, r.made.on(x), x, r.trouble);
            List<String> got = Probe.whole(x);
            due.is(state.name + ": as many answers behind " + r.call, want.size(), got.size());
            for (int i = 0; i < Math.min(want.size(), got.size()); i++) {
                due.is(state.name + ": behind " + r.call + " '" + got.get(i) + "' is '" + want.get(i) + "'", true, want.get(i).equals(got.get(i)));
            }
        }
    }

    private static void askingChangesNothing() {
        due.part("asking");
        for (State state : new State[] {NEW, FAULTY, FRESH, RICH, FULL}) {
            SevenLeague x = state.made.get();
            List<String> first = Probe.asking(x);
            due.is(state.name + ": asking again", true, first.equals(Probe.asking(x)));
            due.is(state.name + ": all behind asking", true, Probe.whole(x).equals(Probe.whole(state.made.get())));
        }
    }

    /** Each number that a promise's last sentence tells has a refusal above. */
    private static void allAreTested(List<Refusal> all) {
        due.part("refusals");
        Set<String> tested = new TreeSet<>();
        for (Refusal r : all) tested.add(r.promise + " by " + r.trouble);
        for (int promise = 1; promise <= Doc.PROMISES; promise++) {
            String sentence = Doc.refusal(promise).replace("likewise", Doc.refusal(promise - 1 > 0 ? promise - 1 : 1));
            Matcher number = Pattern.compile("[:;] ([1-6])\\b").matcher(sentence);
            while (number.find()) {
                due.is("promise " + promise + " by " + number.group(1) + " is tested", true, tested.contains(promise + " by " + number.group(1)));
            }
        }
    }
}
