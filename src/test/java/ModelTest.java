import java.util.ArrayList;
import java.util.List;
import java.util.NoSuchElementException;
import java.util.Random;

/** Long runs of calls, by fixed seeds, on the class and on the plain model of the document: all answers must be alike. */
public final class ModelTest {
    private static final int RUNS = Integer.getInteger("runs", 600);
    private static final int CALLS = 120;
    private static int wrong = 0;

    private final Random random;
    private final int seed;
    private final SevenLeague x = new SevenLeague();
    private final Model m = new Model();
    private final List<String> log = new ArrayList<>();

    private ModelTest(int seed) {
        this.seed = seed;
        this.random = new Random(seed);
    }

    public static void main(String[] args) {
        int first = Integer.getInteger("first", 0);
        for (int seed = first; seed < first + RUNS && wrong < 5; seed++) {
            new ModelTest(seed).run();
        }
        System.out.println(wrong == 0 ? "class and model are alike" : wrong + " runs are not alike");
        if (wrong != 0) System.exit(1);
    }

    private void run() {
        if (random.nextInt(20) == 0) calls(20);
        int lands = 1 + random.nextInt(3);
        for (int i = 0; i < lands; i++) {
            if (!tell(text()) || !calls(CALLS)) return;
        }
    }

    // ---- texts

    private boolean chance(int in) {
        return random.nextInt(in) == 0;
    }

    private int upTo(int most) {
        return random.nextInt(most + 1);
    }

    private int cells;

    private String text() {
        cells = chance(3) ? 8 + upTo(6) : chance(3) ? 60 - upTo(5) : 8 + upTo(52);
        int gout = new int[] {0, 100, 50, 25, upTo(100), upTo(100)}[upTo(5)];
        String text = "land cells " + cells + " son " + upTo(cells - 1) + " curate " + upTo(cells - 1) + " gout " + gout;
        int boots = 1 + upTo(2);
        for (int b = 0; b < boots; b++) text = line(text, "boots b" + "abc".charAt(b) + " " + (2 + upTo(7)));
        int grounds = upTo(6);
        for (int i = 0; i < grounds; i++) text = line(text, ground());
        int places = upTo(6);
        for (int i = 0; i < places; i++) text = line(text, place());
        int tries = upTo(14);
        for (int i = 0; i < tries; i++) text = line(text, stride(boots));
        int more = upTo(12);
        for (int i = 0; i < more; i++) text = line(text, chance(2) ? "unsure " + (1 + upTo(7)) : seen());
        if (chance(12)) text = line(text, chance(2) ? stride(boots) : place());
        return chance(6) ? spoiled(text) : text;
    }

    private String ground() {
        int a = upTo(cells - 1), b = Math.min(cells - 1, a + upTo(20));
        return "ground " + new String[] {"heath", "bog", "wood"}[upTo(2)] + " " + a + " " + b;
    }

    private String place() {
        return "place p" + (char) ('a' + upTo(11)) + " at " + upTo(cells - 1) + " folk " + (1 + upTo(98));
    }

    private String stride(int boots) {
        return "stride b" + "abc".charAt(upTo(boots - 1)) + (chance(2) ? " up" : " down");
    }

    private String seen() {
        return "seen " + upTo(cells - 1) + (chance(2) ? " gone" : " there");
    }

    /** The line comes behind the text if that is no fault, and now and then if it is. */
    private String line(String text, String line) {
        String longer = text + (chance(4) ? " ; " : ";") + line;
        if (longer.length() > 880) return text;
        Model trial = new Model();
        Tapes.feed(trial, longer);
        trial.land(longer.length());
        if (line.startsWith("seen") && trial.fits() == 0 && !chance(10)) return text;
        return trial.fault() == 0 || trial.fault() == 6 || chance(150) ? longer : text;
    }

    private String spoiled(String text) {
        StringBuilder s = new StringBuilder(text);
        int times = 1 + upTo(2);
        for (int i = 0; i < times; i++) {
            int at = upTo(s.length() - 1);
            switch (upTo(8)) {
                case 0 -> s.deleteCharAt(at);
                case 1 -> s.setCharAt(at, " ;9a0%\n\u00e9A".charAt(upTo(8)));
                case 2 -> s.insert(at, " ;9a0%bb".charAt(upTo(7)));
                case 3 -> s.insert(at, new String[] {" land ", ";boots", " seen ", "12345", "abcdefghi", "  "}[upTo(5)]);
                case 4 -> s.setLength(at);
                case 5 -> swapTokens(s);
                case 6 -> repeatLine(s);
                default -> insertLine(s);
            }
            if (s.length() == 0) s.append(' ');
        }
        return s.length() > 900 ? s.substring(0, 900) : s.toString();
    }

    private void swapTokens(StringBuilder s) {
        String[] tokens = s.toString().split(" +");
        if (tokens.length == 0) return;
        int a = upTo(tokens.length - 1), b = upTo(tokens.length - 1);
        String t = tokens[a];
        tokens[a] = tokens[b];
        tokens[b] = t;
        s.setLength(0);
        s.append(String.join(" ", tokens));
    }

    private void insertLine(StringBuilder s) {
        String[] lines = {"ground bog 1 2", "boots q 3", "boots ba 3", "stride pa up", "stride zz up", "stride ba up", "unsure 8", "unsure 0",
            "seen 60 gone", "land cells 9", "place ba at 1 folk 1", "place zz at 99 folk 1", "ground wood 5 4", "ground heath 0 0 0"};
        int at = s.indexOf(";", upTo(s.length()));
        s.insert(at < 0 ? s.length() : at, ";" + lines[upTo(lines.length - 1)]);
    }

    private void repeatLine(StringBuilder s) {
        String[] lines = s.toString().split(";");
        if (lines.length == 0) return;
        for (int i = upTo(6); i >= 0; i--) s.append(';').append(lines[upTo(lines.length - 1)]);
    }

    private boolean tell(String text) {
        boolean fine = alike("feed " + text, Tapes.feed(x, text), Tapes.feed(m, text));
        int n = chance(15) ? random.nextInt(60) : text.length() + (chance(8) ? random.nextInt(20) : 0);
        return fine && alike("land(" + n + ")", x.land(n), m.land(n));
    }

    // ---- calls

    private int number(int most) {
        if (chance(12)) return -2 + random.nextInt(most + 5);
        return chance(100) ? new int[] {Integer.MIN_VALUE, Integer.MAX_VALUE, random.nextInt()}[upTo(2)] : upTo(most);
    }

    private int row(int n) {
        int row = 0;
        for (int i = 0; i < n; i++) row = row * 10 + (chance(25) ? upTo(9) : 1 + upTo(Math.max(1, 2 * x.size(2) - 1)));
        if (chance(40)) return new int[] {-row, Integer.MIN_VALUE, Integer.MAX_VALUE, random.nextInt()}[upTo(3)];
        return row;
    }

    private int rowLength() {
        return chance(30) ? number(6) : upTo(5);
    }

    private boolean calls(int count) {
        for (int i = 0; i < count; i++) {
            if (!call(upTo(75))) return false;
            if (chance(3) && !told()) return false;
        }
        return true;
    }

    private boolean told() {
        boolean fine = alike("where()", x.where(), m.where()) && alike("fault()", x.fault(), m.fault());
        int what = number(10);
        return fine && alike("size(" + what + ")", x.size(what), m.size(what));
    }

    private boolean call(int which) {
        int last = Math.max(0, x.size(0) - 1);
        int k = number(last), to = number(last), n = rowLength(), row = row(Math.max(0, Math.min(5, n)));
        if (chance(40)) n = rowLength();
        if (which < 20) return now(which, k, to);
        if (which < 40) return strides(which, k, n, row);
        if (which < 58) return others(which, k, n, row);
        return acts(which, k);
    }

    private boolean now(int which, int k, int to) {
        int what = number(3), p = number(5), b = number(2), n = number(60);
        return switch (which) {
            case 0 -> alike("cell(" + k + "," + what + ")", x.cell(k, what), m.cell(k, what));
            case 1 -> alike("place(" + p + "," + what + ")", x.place(p, what), m.place(p, what));
            case 2 -> alike("boots(" + b + ")", x.boots(b), m.boots(b));
            case 3 -> alike("son()", x.son(), m.son());
            case 4 -> alike("curate()", x.curate(), m.curate());
            case 5 -> alike("gone()", x.gone(), m.gone());
            case 6 -> alike("lost()", x.lost(), m.lost());
            case 7 -> alike("stretches()", x.stretches(), m.stretches());
            case 8 -> alike("longest()", x.longest(), m.longest());
            case 9 -> alike("widest()", x.widest(), m.widest());
            case 10 -> alike("between(" + k + "," + to + ")", x.between(k, to), m.between(k, to));
            case 11 -> alike("deep(" + k + "," + to + ")", x.deep(k, to), m.deep(k, to));
            case 12 -> alike("nearest()", x.nearest(), m.nearest());
            case 13 -> alike("goneIn(" + n + ")", x.goneIn(n), m.goneIn(n));
            case 14 -> alike("lostIn(" + n + ")", x.lostIn(n), m.lostIn(n));
            case 15, 16 -> alike("backIn(" + k + ")", x.backIn(k), m.backIn(k));
            case 17 -> alike("stillIn()", x.stillIn(), m.stillIn());
            case 18 -> alike("steps(" + k + ")", x.steps(k), m.steps(k));
            default -> ledAlike(number(3));
        };
    }

    private boolean ledAlike(int i) {
        int got, want;
        try {
            got = x.led(i);
        } catch (NoSuchElementException e) {
            got = -77;
        }
        try {
            want = m.led(i);
        } catch (NoSuchElementException e) {
            want = -77;
        }
        return alike("led(" + i + ")", got, want);
    }

    private boolean strides(int which, int k, int n, int row) {
        int b = number(2), way = number(1), i = number(4), d = number(60), most = number(5);
        return switch (which) {
            case 20 -> alike("leads(" + b + "," + way + ")", x.leads(b, way), m.leads(b, way));
            case 21 -> alike("passes(" + b + "," + way + ")", x.passes(b, way), m.passes(b, way));
            case 22 -> alike("costs(" + b + "," + way + ")", x.costs(b, way), m.costs(b, way));
            case 23, 24 -> alike("rowLeads(" + row + "," + n + ")", x.rowLeads(row, n), m.rowLeads(row, n));
            case 25, 26 -> alike("rowLost(" + row + "," + n + ")", x.rowLost(row, n), m.rowLost(row, n));
            case 27 -> alike("come(" + k + ")", x.come(k), m.come(k));
            case 28 -> alike("comeAt(" + k + "," + i + ")", x.comeAt(k, i), m.comeAt(k, i));
            case 29 -> alike("spare(" + k + ")", x.spare(k), m.spare(k));
            case 30 -> alike("spareRow(" + k + ")", x.spareRow(k), m.spareRow(k));
            case 31 -> alike("reach(" + most + ")", x.reach(most), m.reach(most));
            case 32 -> alike("sum(" + d + ")", x.sum(d), m.sum(d));
            case 33 -> alike("over(" + k + ")", x.over(k), m.over(k));
            case 34 -> alike("never()", x.never(), m.never());
            default -> tours(which, i);
        };
    }

    private boolean tours(int which, int i) {
        int n = number(10);
        return switch (which) {
            case 35, 36 -> alike("tour(" + n + ")", x.tour(n), m.tour(n));
            case 37 -> alike("tourGone(" + n + ")", x.tourGone(n), m.tourGone(n));
            default -> alike("tourAt(" + n + "," + i + ")", x.tourAt(n, i), m.tourAt(n, i));
        };
    }

    private boolean others(int which, int k, int n, int row) {
        int i = number(3), mud = number(9), seed = number(65536);
        boolean a = chance(2), b = chance(2), c = chance(2);
        return switch (which) {
            case 40 -> alike("fits()", x.fits(), m.fits());
            case 41 -> alike("fitAt(" + i + ")", x.fitAt(i), m.fitAt(i));
            case 42 -> alike("could()", x.could(), m.could());
            case 43 -> alike("surely()", x.surely(), m.surely());
            case 44 -> alike("ask()", x.ask(), m.ask());
            case 45 -> alike("askLeaves()", x.askLeaves(), m.askLeaves());
            case 46 -> alike("judge()", x.judge(), m.judge());
            case 47 -> alike("goes(" + mud + "," + a + b + c + ")", x.goes(mud, a, b, c), m.goes(mud, a, b, c));
            case 48 -> alike("rests(" + mud + ")", x.rests(mud), m.rests(mud));
            case 49 -> alike("rest(" + mud + ")", x.rest(mud), m.rest(mud));
            case 50, 51, 52 -> {
                int at = chance(2) ? k : x.drawn(row, n, 7);
                if (n < 0 || at < 0) at = k;
                yield alike("odds(" + at + "," + row + "," + n + "," + a + ")", x.odds(at, row, n, a), m.odds(at, row, n, a));
            }
            case 53, 54, 55 -> alike("mean(" + row + "," + n + "," + a + ")", x.mean(row, n, a), m.mean(row, n, a));
            default -> alike("drawn(" + row + "," + n + "," + seed + ")", x.drawn(row, n, seed), m.drawn(row, n, seed));
        };
    }

    private boolean acts(int which, int k) {
        int b = number(2), way = number(1), image = number(2);
        if (which < 64) return alike("stride(" + b + "," + way + ")", x.stride(b, way), m.stride(b, way));
        if (which < 68) return alike("step(" + way + ")", x.step(way), m.step(way));
        if (which < 70) return alike("year()", x.year(), m.year());
        if (which < 72) return alike("fill(" + k + ")", x.fill(k), m.fill(k));
        if (which < 74) return alike("undo()", x.undo() ? 1 : 0, m.undo() ? 1 : 0);
        if (which == 74) return alike("image()", x.image(), m.image());
        return alike("back(" + image + ")", x.back(image) ? 1 : 0, m.back(image) ? 1 : 0);
    }

    /** Trouble must be alike behind each call, not only its answer. */
    private boolean alike(String call, long got, long want) {
        log.add(call + " -> " + want);
        if (got == want && x.trouble() == m.trouble()) return true;
        wrong++;
        System.out.println("run " + seed + ": " + call + " answered " + got + " (trouble " + x.trouble() + "), due is " + want
                + " (trouble " + m.trouble() + ")");
        for (String line : log) System.out.println("    " + line);
        return false;
    }
}
