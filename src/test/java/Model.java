import java.math.BigInteger;
import java.util.ArrayDeque;
import java.util.ArrayList;
import java.util.HashMap;
import java.util.List;
import java.util.Map;
import java.util.NoSuchElementException;

/**
 * The document a second time, written as plainly as can be and with nothing shared with the class under test:
 * depths in an array, rows listed one by one, all searches by brute force.
 */
final class Model {
    static final int NONE = -1;

    private static final class Land {
        int cells, son, curate, gout;
        int[] ground;
        final List<Integer> boots = new ArrayList<>();
        final List<int[]> places = new ArrayList<>();
        final List<int[]> strides = new ArrayList<>();
        final List<Integer> unsure = new ArrayList<>();
        final List<int[]> seen = new ArrayList<>();
    }

    private static final class World {
        int[] deep;
        int son, curate, years;

        World copy() {
            World w = new World();
            w.deep = deep.clone();
            w.son = son;
            w.curate = curate;
            w.years = years;
            return w;
        }
    }

    private StringBuilder tape = new StringBuilder();
    private Land land;
    private World now;
    private List<World> acts = new ArrayList<>();
    private List<World> images = new ArrayList<>();
    private int trouble, fault, where;

    int feed(int... five) {
        if (tape.length() + 20 > 900) return NONE;
        for (int number : five) {
            for (int i = 3; i >= 0; i--) tape.append((char) (number >>> 8 * i & 255));
        }
        return tape.length();
    }

    // ---- reading: all tokens first, faults as exceptions of the model's own

    private static final class Fault extends RuntimeException {
        final int number, place;

        Fault(int number, int place) {
            this.number = number;
            this.place = place;
        }
    }

    private record Token(String text, int place) {
        boolean isWord() {
            return text.matches("[a-z]{1,8}");
        }

        boolean isWhole() {
            return text.matches("[0-9]{1,3}");
        }
    }

    private static List<Token> tokens(String text) {
        List<Token> all = new ArrayList<>();
        java.util.regex.Matcher m = java.util.regex.Pattern.compile("[a-z]+|[0-9]+|[^ ]", java.util.regex.Pattern.DOTALL).matcher(text);
        while (m.find()) all.add(new Token(m.group(), m.start()));
        all.add(new Token("", text.length()));
        return all;
    }

    private static final List<String> HEADS = List.of("land", "ground", "boots", "place", "stride", "unsure", "seen");
    private static final Map<String, Integer> ROOM = Map.of("ground", 6, "boots", 3, "place", 6, "stride", 8, "unsure", 4, "seen", 6);

    private static final class Parse {
        final List<Token> all;
        int next = 0;
        Land l = null;
        World w = null;
        final Map<String, Integer> names = new HashMap<>();
        final Map<String, Integer> lines = new HashMap<>();

        Parse(String text) {
            all = tokens(text);
        }

        Token take() {
            return all.get(Math.min(next++, all.size() - 1));
        }

        void word(String w) {
            Token t = take();
            if (!t.text.equals(w)) throw new Fault(1, t.place);
        }

        int oneOf(String... words) {
            Token t = take();
            for (int i = 0; i < words.length; i++) if (words[i].equals(t.text)) return i;
            throw new Fault(1, t.place);
        }

        int whole(int least, int most) {
            Token t = take();
            if (!t.isWhole()) throw new Fault(1, t.place);
            int value = Integer.parseInt(t.text);
            if (value < least || value > most) throw new Fault(4, t.place);
            return value;
        }

        int placeOfLast() {
            return all.get(Math.min(next - 1, all.size() - 1)).place;
        }

        Token name() {
            Token t = take();
            if (!t.isWord() || HEADS.contains(t.text)) throw new Fault(1, t.place);
            return t;
        }

        void newName(int what) {
            Token t = name();
            if (names.containsKey(t.text)) throw new Fault(3, t.place);
            names.put(t.text, what);
        }

        Land all() {
            while (true) {
                line();
                Token t = take();
                if (t.text.isEmpty()) {
                    if (l.boots.isEmpty()) throw new Fault(6, t.place);
                    return l;
                }
                if (!t.text.equals(";")) throw new Fault(1, t.place);
            }
        }

        void line() {
            Token t = take();
            if (!HEADS.contains(t.text)) throw new Fault(1, t.place);
            if (t.text.equals("land")) {
                if (l != null) throw new Fault(3, t.place);
                readLand();
                return;
            }
            if (lines.getOrDefault(t.text, 0).equals(ROOM.get(t.text))) throw new Fault(5, t.place);
            if (l == null) throw new Fault(6, t.place);
            if (t.text.equals("ground") && !l.strides.isEmpty()) throw new Fault(8, t.place);
            lines.merge(t.text, 1, Integer::sum);
            switch (t.text) {
                case "ground" -> {
                    int sort = oneOf("heath", "bog", "wood");
                    int a = whole(0, l.cells - 1), b = whole(a, l.cells - 1);
                    for (int k = a; k <= b; k++) l.ground[k] = sort;
                }
                case "boots" -> {
                    newName(l.boots.size());
                    l.boots.add(whole(2, 9));
                }
                case "place" -> readPlace();
                case "stride" -> readStride();
                case "unsure" -> {
                    int which = whole(1, l.strides.size());
                    if (l.unsure.contains(which - 1)) throw new Fault(3, placeOfLast());
                    l.unsure.add(which - 1);
                }
                default -> {
                    int k = whole(0, l.cells - 1);
                    for (int[] s : l.seen) if (s[0] == k) throw new Fault(3, placeOfLast());
                    l.seen.add(new int[] {k, oneOf("there", "gone")});
                }
            }
        }

        void readLand() {
            l = new Land();
            word("cells");
            l.cells = whole(8, 60);
            word("son");
            l.son = whole(0, l.cells - 1);
            word("curate");
            l.curate = whole(0, l.cells - 1);
            word("gout");
            l.gout = whole(0, 100);
            l.ground = new int[l.cells];
            w = first(l);
        }

        void readPlace() {
            newName(-1);
            word("at");
            int k = whole(0, l.cells - 1);
            for (int[] p : l.places) if (p[0] == k) throw new Fault(3, placeOfLast());
            word("folk");
            l.places.add(new int[] {k, whole(1, 99)});
        }

        void readStride() {
            Token t = name();
            if (names.getOrDefault(t.text, -1) < 0) throw new Fault(2, t.place);
            int b = names.get(t.text), way = oneOf("up", "down");
            if (!go(l, w, b, way)) throw new Fault(7, placeOfLast());
            l.strides.add(new int[] {b, way});
        }
    }

    int land(int n) {
        if (n < 0 || n > tape.length()) return no(2);
        String text = tape.substring(0, n);
        tape = new StringBuilder();
        try {
            Land l = new Parse(text).all();
            fault = 0;
            trouble = 0;
            land = l;
            now = asTold(l, 0);
            acts.clear();
            images.clear();
            return l.cells;
        } catch (Fault f) {
            fault = f.number;
            where = f.place;
            return no(4);
        }
    }

    int fault() {
        return fault;
    }

    int where() {
        return trouble == 4 ? where : NONE;
    }

    // ---- what goes on

    private static World first(Land l) {
        World w = new World();
        w.deep = new int[l.cells];
        w.son = l.son;
        w.curate = l.curate;
        return w;
    }

    private static boolean go(Land l, World w, int b, int way) {
        int sign = way == 0 ? 1 : -1, to = w.son + sign * l.boots.get(b);
        if (to < 0 || to >= l.cells || w.deep[to] > 0) return false;
        for (int k = w.son + sign; k != to; k += sign) if (w.deep[k] == 0) w.deep[k] = l.ground[k] + 1;
        w.son = to;
        return true;
    }

    /** The world behind the strides told, those of a set the other way; null if one can't be made. */
    private static World asTold(Land l, int set) {
        World w = first(l);
        for (int i = 0; i < l.strides.size(); i++) {
            int[] s = l.strides.get(i);
            int u = l.unsure.indexOf(i);
            int way = u >= 0 && (set >> u & 1) == 1 ? 1 - s[1] : s[1];
            if (!go(l, w, s[0], way)) return null;
        }
        return w;
    }

    private static boolean walk(Land l, World w, int way) {
        int to = w.curate + (way == 0 ? 1 : -1);
        if (to < 0 || to >= l.cells) return false;
        w.curate = to;
        if (w.deep[to] > 0) w.deep[to]--;
        return true;
    }

    private static void pass(Land l, World w) {
        int[] old = w.deep.clone();
        for (int k = 0; k < l.cells; k++) {
            boolean edge = k > 0 && old[k - 1] == 0 || k + 1 < l.cells && old[k + 1] == 0;
            if (old[k] > 0 && edge && l.ground[k] != 1) w.deep[k]--;
        }
    }

    private static int goneOf(World w) {
        int n = 0;
        for (int d : w.deep) if (d > 0) n++;
        return n;
    }

    private static int lostOf(Land l, World w) {
        int n = 0;
        for (int[] p : l.places) if (w.deep[p[0]] > 0) n += p[1];
        return n;
    }

    // ---- refusing

    private int no(int number) {
        trouble = number;
        return NONE;
    }

    private boolean noLand() {
        trouble = land == null ? 1 : 0;
        return land == null;
    }

    private boolean noCell(int k) {
        trouble = land == null || k < 0 || k >= land.cells ? 1 : 0;
        return trouble != 0;
    }

    private boolean noNumber(int n, int most) {
        if (noLand()) return true;
        trouble = n < 0 || n > most ? 2 : 0;
        return trouble != 0;
    }

    private boolean noStride(int b, int way) {
        if (land == null || b < 0 || b >= land.boots.size()) trouble = 1;
        else trouble = way != 0 && way != 1 ? 2 : 0;
        return trouble != 0;
    }

    private boolean noRow(int row, int n) {
        if (noLand()) return true;
        trouble = 0;
        if (n < 0 || n > 5 || row < 0) trouble = 2;
        else if (n == 0) trouble = row == 0 ? 0 : 2;
        else {
            String digits = Integer.toString(row);
            if (digits.length() != n) trouble = 2;
            for (char c : digits.toCharArray()) if (c < '1' || c > '0' + 2 * land.boots.size()) trouble = 2;
        }
        return trouble != 0;
    }

    // ---- now

    int cell(int k, int what) {
        if (noCell(k)) return NONE;
        if (what < 0 || what > 3) return no(1);
        if (what == 0) return land.ground[k];
        if (what == 1) return now.deep[k];
        if (what == 3) return (now.son == k ? 1 : 0) + (now.curate == k ? 2 : 0);
        for (int p = 0; p < land.places.size(); p++) if (land.places.get(p)[0] == k) return p;
        return -2;
    }

    int place(int p, int what) {
        if (noLand()) return NONE;
        if (p < 0 || p >= land.places.size() || what < 0 || what > 2) return no(1);
        return what < 2 ? land.places.get(p)[what] : now.deep[land.places.get(p)[0]] > 0 ? 1 : 0;
    }

    int boots(int b) {
        return noStride(b, 0) ? NONE : land.boots.get(b);
    }

    int son() {
        return noLand() ? NONE : now.son;
    }

    int curate() {
        return noLand() ? NONE : now.curate;
    }

    int gone() {
        return noLand() ? NONE : goneOf(now);
    }

    int lost() {
        return noLand() ? NONE : lostOf(land, now);
    }

    // ---- stretches, gaps

    /** Runs of cells as {first, how many}. */
    private List<int[]> runs(boolean gone) {
        List<int[]> all = new ArrayList<>();
        boolean in = false;
        for (int k = 0; k < land.cells; k++) {
            boolean is = now.deep[k] > 0 == gone;
            if (is && !in) all.add(new int[] {k, 0});
            if (is) all.get(all.size() - 1)[1]++;
            in = is;
        }
        return all;
    }

    int stretches() {
        return noLand() ? NONE : runs(false).size();
    }

    int longest() {
        if (noLand()) return NONE;
        int[] best = {-2, 0};
        for (int[] r : runs(false)) if (r[1] > best[1]) best = r;
        return best[0];
    }

    int widest() {
        if (noLand()) return NONE;
        int best = 0;
        for (int[] r : runs(true)) best = Math.max(best, r[1]);
        return best;
    }

    int between(int k, int to) {
        if (noCell(k) || noCell(to)) return NONE;
        int n = 0;
        for (int i = Math.min(k, to); i <= Math.max(k, to); i++) if (now.deep[i] > 0) n++;
        return n;
    }

    int deep(int k, int to) {
        if (noCell(k) || noCell(to)) return NONE;
        int n = 0;
        for (int i = Math.min(k, to); i <= Math.max(k, to); i++) n += now.deep[i];
        return n;
    }

    private int stretchOf(int k) {
        int i = 0;
        for (int[] r : runs(false)) {
            if (k >= r[0] && k < r[0] + r[1]) return i;
            i++;
        }
        return -1;
    }

    int nearest() {
        if (noLand()) return NONE;
        int best = -2, fewest = 99;
        for (int p = 0; p < land.places.size(); p++) {
            for (int q = p + 1; q < land.places.size(); q++) {
                int a = land.places.get(p)[0], b = land.places.get(q)[0];
                if (stretchOf(a) < 0 || stretchOf(b) < 0 || stretchOf(a) == stretchOf(b)) continue;
                int n = between(a, b);
                if (n < fewest) {
                    fewest = n;
                    best = 10 * p + q;
                }
            }
        }
        return best;
    }

    // ---- years

    private World in(int years) {
        World w = now.copy();
        for (int i = 0; i < years; i++) pass(land, w);
        return w;
    }

    int goneIn(int n) {
        return noNumber(n, 60) ? NONE : goneOf(in(n));
    }

    int lostIn(int n) {
        return noNumber(n, 60) ? NONE : lostOf(land, in(n));
    }

    int backIn(int k) {
        if (noCell(k)) return NONE;
        for (int y = 0; y <= 60; y++) if (in(y).deep[k] == 0) return y;
        return -2;
    }

    int stillIn() {
        if (noLand()) return NONE;
        for (int y = 0; y <= 60; y++) if (java.util.Arrays.equals(in(y).deep, in(y + 1).deep)) return y;
        return -2;
    }

    // ---- strides

    int leads(int b, int way) {
        if (noStride(b, way)) return NONE;
        World w = now.copy();
        return go(land, w, b, way) ? w.son : -2;
    }

    int passes(int b, int way) {
        if (noStride(b, way)) return NONE;
        World w = now.copy();
        return go(land, w, b, way) ? goneOf(w) - goneOf(now) : -2;
    }

    int costs(int b, int way) {
        if (noStride(b, way)) return NONE;
        World w = now.copy();
        return go(land, w, b, way) ? lostOf(land, w) - lostOf(land, now) : -2;
    }

    private World behind(String row) {
        World w = now.copy();
        for (char c : row.toCharArray()) {
            int d = c - '1';
            if (!go(land, w, d / 2, d % 2)) return null;
        }
        return w;
    }

    int rowLeads(int row, int n) {
        if (noRow(row, n)) return NONE;
        World w = behind(n == 0 ? "" : "" + row);
        return w == null ? -2 : w.son;
    }

    int rowLost(int row, int n) {
        if (noRow(row, n)) return NONE;
        World w = behind(n == 0 ? "" : "" + row);
        return w == null ? -2 : lostOf(land, w);
    }

    /** All rows that can be made, the shorter ahead, then by digits. */
    private Map<String, World> rows(int most) {
        Map<String, World> all = new java.util.LinkedHashMap<>();
        all.put("", now.copy());
        List<String> last = List.of("");
        for (int n = 1; n <= most; n++) {
            List<String> next = new ArrayList<>();
            for (String row : last) {
                for (int d = 0; d < 2 * land.boots.size(); d++) {
                    World w = all.get(row).copy();
                    if (go(land, w, d / 2, d % 2)) {
                        all.put(row + (d + 1), w);
                        next.add(row + (d + 1));
                    }
                }
            }
            last = next;
        }
        return all;
    }

    private String comeRow(int k) {
        for (Map.Entry<String, World> e : rows(5).entrySet()) if (e.getValue().son == k) return e.getKey();
        return null;
    }

    int come(int k) {
        if (noCell(k)) return NONE;
        String row = comeRow(k);
        return row == null ? -2 : row.length();
    }

    int comeAt(int k, int i) {
        if (noCell(k)) return NONE;
        String row = comeRow(k);
        return row == null || i < 0 || i >= row.length() ? no(1) : row.charAt(i) - '0';
    }

    private String spareOf(int k) {
        String best = null;
        int fewest = 0;
        for (Map.Entry<String, World> e : rows(5).entrySet()) {
            if (e.getValue().son != k) continue;
            int n = lostOf(land, e.getValue());
            if (best == null || n < fewest) {
                best = e.getKey();
                fewest = n;
            }
        }
        return best;
    }

    int spare(int k) {
        if (noCell(k)) return NONE;
        String row = spareOf(k);
        return row == null ? -2 : lostOf(land, behind(row)) - lostOf(land, now);
    }

    int spareRow(int k) {
        if (noCell(k)) return NONE;
        String row = spareOf(k);
        return row == null ? -2 : row.isEmpty() ? 0 : Integer.parseInt(row);
    }

    int reach(int n) {
        if (noNumber(n, 5)) return NONE;
        int bits = 0;
        for (World w : rows(n).values()) if (w.son < 30) bits |= 1 << w.son;
        return bits;
    }

    private int sumOf(int d) {
        int best = -2;
        int a = land.boots.get(0), b = land.boots.size() > 1 ? land.boots.get(1) : 99, c = land.boots.size() > 2 ? land.boots.get(2) : 99;
        for (int i = 0; i * a <= d; i++) {
            for (int j = 0; i * a + j * b <= d; j++) {
                for (int k = 0; i * a + j * b + k * c <= d; k++) {
                    if (i * a + j * b + k * c == d && (best < 0 || i + j + k < best)) best = i + j + k;
                }
            }
        }
        return best;
    }

    int sum(int d) {
        return noNumber(d, 60) ? NONE : sumOf(d);
    }

    int over(int k) {
        if (noCell(k)) return NONE;
        BigInteger g = BigInteger.ZERO;
        for (int b : land.boots) g = g.gcd(BigInteger.valueOf(b));
        return Math.abs(k - now.son) % g.intValue();
    }

    int never() {
        if (noLand()) return NONE;
        int best = -2;
        for (int d = 0; d <= 60; d++) if (sumOf(d) == -2) best = d;
        return best;
    }

    // ---- the curate

    private String bestTour(int n) {
        String best = null;
        int fewest = 0, cells = 0;
        for (int ways = 0; ways < 1 << n; ways++) {
            StringBuilder row = new StringBuilder();
            for (int i = n - 1; i >= 0; i--) row.append(ways >> i & 1);
            World w = toured(row.toString());
            if (w == null) continue;
            if (best == null || lostOf(land, w) < fewest || lostOf(land, w) == fewest && goneOf(w) < cells) {
                best = row.toString();
                fewest = lostOf(land, w);
                cells = goneOf(w);
            }
        }
        return best;
    }

    private World toured(String row) {
        World w = now.copy();
        for (char c : row.toCharArray()) if (!walk(land, w, c - '0')) return null;
        return w;
    }

    int tour(int n) {
        return noNumber(n, 10) ? NONE : lostOf(land, toured(bestTour(n)));
    }

    int tourGone(int n) {
        return noNumber(n, 10) ? NONE : goneOf(toured(bestTour(n)));
    }

    int tourAt(int n, int i) {
        if (noNumber(n, 10)) return NONE;
        return i < 0 || i > n ? no(1) : toured(bestTour(n).substring(0, i)).curate;
    }

    /** By search over where he is and how deep the cell is. */
    int steps(int k) {
        if (noCell(k)) return NONE;
        int[][] far = new int[land.cells][4];
        for (int[] f : far) java.util.Arrays.fill(f, -1);
        ArrayDeque<int[]> queue = new ArrayDeque<>();
        queue.add(new int[] {now.curate, now.deep[k]});
        far[now.curate][now.deep[k]] = 0;
        while (true) {
            int[] at = queue.remove();
            if (at[1] == 0) return far[at[0]][0];
            for (int to = at[0] - 1; to <= at[0] + 1; to += 2) {
                if (to < 0 || to >= land.cells) continue;
                int d = to == k ? at[1] - 1 : at[1];
                if (far[to][d] >= 0) continue;
                far[to][d] = far[at[0]][at[1]] + 1;
                queue.add(new int[] {to, d});
            }
        }
    }

    // ---- unsure strides

    private List<Integer> allFits() {
        List<Integer> all = new ArrayList<>();
        for (int set = 0; set < 1 << land.unsure.size(); set++) {
            World w = asTold(land, set);
            boolean so = w != null;
            for (int[] s : land.seen) so = so && w.deep[s[0]] > 0 == (s[1] == 1);
            if (so) all.add(set);
        }
        return all;
    }

    int fits() {
        return noLand() ? NONE : allFits().size();
    }

    int fitAt(int i) {
        if (noLand()) return NONE;
        return i < 0 || i >= allFits().size() ? no(1) : allFits().get(i);
    }

    int could() {
        if (noLand()) return NONE;
        int bits = 0;
        for (int set : allFits()) bits |= set;
        return bits;
    }

    int surely() {
        if (noLand()) return NONE;
        if (allFits().isEmpty()) return 0;
        int bits = -1;
        for (int set : allFits()) bits &= set;
        return bits;
    }

    private int[] asked() {
        int[] best = {-2, -2};
        if (allFits().isEmpty()) return best;
        for (int u = 0; u < land.unsure.size(); u++) {
            int yes = 0, not = 0;
            for (int set : allFits()) {
                if ((set >> u & 1) == 1) yes++;
                else not++;
            }
            if (best[0] < 0 || Math.max(yes, not) < best[1]) best = new int[] {u, Math.max(yes, not)};
        }
        return best;
    }

    int ask() {
        return noLand() ? NONE : asked()[0];
    }

    int askLeaves() {
        return noLand() ? NONE : asked()[1];
    }

    int judge() {
        if (noLand()) return NONE;
        World w = asTold(land, 0);
        for (int i = 0; i < land.seen.size(); i++) {
            int[] s = land.seen.get(i);
            if (w.deep[s[0]] > 0 != (s[1] == 1)) return i;
        }
        return -2;
    }

    // ---- son and county

    private static int[] shares(int mud, boolean son, boolean county) {
        if (!son && !county) return new int[] {1, 1};
        if (son && county) return new int[] {-mud, -mud};
        return son ? new int[] {3, -1} : new int[] {-1, 3};
    }

    int goes(int mud, boolean son, boolean county, boolean ofCounty) {
        return noNumber(mud, 9) ? -100 : shares(mud, son, county)[ofCounty ? 1 : 0];
    }

    private List<Integer> allRests(int mud) {
        List<Integer> all = new ArrayList<>();
        for (boolean son : new boolean[] {false, true}) {
            for (boolean county : new boolean[] {false, true}) {
                boolean sonMore = shares(mud, !son, county)[0] > shares(mud, son, county)[0];
                boolean countyMore = shares(mud, son, !county)[1] > shares(mud, son, county)[1];
                if (!sonMore && !countyMore) all.add((son ? 10 : 0) + (county ? 1 : 0));
            }
        }
        return all;
    }

    int rests(int mud) {
        return noNumber(mud, 9) ? NONE : allRests(mud).size();
    }

    int rest(int mud) {
        if (noNumber(mud, 9)) return NONE;
        return allRests(mud).isEmpty() ? -2 : allRests(mud).get(0);
    }

    // ---- gout

    /** Sums over which strides gout leaves out: of a part in all, or of folk. */
    private long chance(int row, int n, int k, boolean folk, boolean lower) {
        BigInteger upper = BigInteger.ZERO, all = BigInteger.valueOf(100).pow(n);
        String digits = n == 0 ? "" : "" + row;
        for (int left = 0; left < 1 << n; left++) {
            World w = now.copy();
            BigInteger part = BigInteger.ONE;
            for (int i = 0; i < n; i++) {
                boolean gout = (left >> i & 1) == 1;
                part = part.multiply(BigInteger.valueOf(gout ? land.gout : 100 - land.gout));
                int d = digits.charAt(i) - '1';
                if (!gout) go(land, w, d / 2, d % 2);
            }
            if (folk) upper = upper.add(part.multiply(BigInteger.valueOf(lostOf(land, w))));
            else if (w.son == k) upper = upper.add(part);
        }
        BigInteger g = upper.gcd(all);
        return (lower ? all : upper).divide(g).longValueExact();
    }

    long odds(int k, int row, int n, boolean lower) {
        return noCell(k) || noRow(row, n) ? NONE : chance(row, n, k, false, lower);
    }

    long mean(int row, int n, boolean lower) {
        return noRow(row, n) ? NONE : chance(row, n, 0, true, lower);
    }

    int drawn(int row, int n, int seed) {
        if (noRow(row, n) || noNumber(seed, 65536)) return NONE;
        World w = now.copy();
        long s = seed;
        for (char c : (n == 0 ? "" : "" + row).toCharArray()) {
            s = (75 * s + 74) % 65537;
            int d = c - '1';
            if (s % 100 >= land.gout) go(land, w, d / 2, d % 2);
        }
        return w.son;
    }

    // ---- acts

    private void keep() {
        acts.add(now.copy());
        if (acts.size() > 16) acts.remove(0);
    }

    int stride(int b, int way) {
        if (noStride(b, way)) return NONE;
        if (!go(land, now.copy(), b, way)) return no(5);
        keep();
        go(land, now, b, way);
        return now.son;
    }

    int step(int way) {
        if (noNumber(way, 1)) return NONE;
        if (!walk(land, now.copy(), way)) return no(5);
        keep();
        walk(land, now, way);
        return now.curate;
    }

    int year() {
        if (noLand()) return NONE;
        if (now.years == 999) return no(3);
        keep();
        int before = goneOf(now);
        pass(land, now);
        now.years++;
        return before - goneOf(now);
    }

    int fill(int k) {
        if (noCell(k)) return NONE;
        if (now.deep[k] == 0) return no(5);
        keep();
        int was = now.deep[k];
        now.deep[k] = 0;
        return was;
    }

    boolean undo() {
        trouble = acts.isEmpty() ? 6 : 0;
        if (acts.isEmpty()) return false;
        now = acts.remove(acts.size() - 1);
        return true;
    }

    int image() {
        if (noLand()) return NONE;
        if (images.size() == 3) return no(3);
        images.add(now.copy());
        return images.size() - 1;
    }

    boolean back(int image) {
        trouble = image < 0 || image >= images.size() ? 1 : 0;
        if (trouble != 0) return false;
        now = images.get(image).copy();
        acts.clear();
        return true;
    }

    // ---- what is told

    int led(int i) {
        List<Integer> all = new ArrayList<>();
        for (int p = 0; land != null && p < land.places.size(); p++) if (now.deep[land.places.get(p)[0]] > 0) all.add(p);
        if (i < 0 || i >= all.size()) throw new NoSuchElementException();
        return all.get(i);
    }

    int size(int what) {
        if (what == 10) return tape.length();
        if (what < 0 || what > 10) return NONE;
        if (land == null) return 0;
        return new int[] {land.cells, land.gout, land.boots.size(), land.places.size(), land.strides.size(), land.unsure.size(),
            land.seen.size(), now.years, acts.size(), images.size()}[what];
    }

    int trouble() {
        return trouble;
    }
}
