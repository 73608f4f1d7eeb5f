import java.util.NoSuchElementException;

/** A land in a row of cells, a son in long boots, and what he passes over. See README.md. */
public final class SevenLeague {
    public static final int NONE = -1;

    /** An answer, not a refusal: it can't be, or there is none. */
    private static final int CANT = -2;

    private static final int NO_SUCH = 1;
    private static final int NUMBER = 2;
    private static final int NO_ROOM = 3;
    private static final int FAULT = 4;
    private static final int NOT_SO = 5;
    private static final int EMPTY = 6;

    private static final int TAPE_ROOM = 900;
    private static final int FEED_BYTES = 20;
    private static final int MOST_CELLS = 60;
    private static final int MOST_FAR = 60;
    private static final int MOST_STRIDES = 5;
    private static final int MOST_STEPS = 10;
    private static final int MOST_YEARS = 999;
    private static final int MOST_MUD = 9;
    private static final int MOST_SEED = 65536;
    private static final int ACTS_KEPT = 16;
    private static final int IMAGES_KEPT = 3;
    private static final long LOW_THIRTY = (1L << 30) - 1;

    private final Reader reader = new Reader();
    private Country country = new Country();
    private final State now = new State();
    private final State later = new State();
    private final History history = new History();
    private final Shelf images = new Shelf(IMAGES_KEPT);
    private int imageCount = 0;
    private final Paths paths = new Paths();
    private final Tours tours = new Tours();
    private final Chances chances = new Chances();
    private int lastTrouble = 0;

    public SevenLeague() {
    }

    // ---- the land

    public int feed(int a, int b, int c, int d, int e) {
        if (reader.tapeSize + FEED_BYTES > TAPE_ROOM) {
            return NONE;
        }
        reader.append(a);
        reader.append(b);
        reader.append(c);
        reader.append(d);
        reader.append(e);
        return reader.tapeSize;
    }

    public int land(int n) {
        if (!granted(n < 0 || n > reader.tapeSize ? NUMBER : 0)) {
            return NONE;
        }
        reader.read(n);
        if (!granted(reader.firstFault != 0 ? FAULT : 0)) {
            return NONE;
        }
        Country before = country;
        country = reader.draft;
        reader.draft = before;
        now.begin(country);
        history.forget();
        imageCount = 0;
        paths.forget();
        return country.cells;
    }

    public int fault() {
        return reader.firstFault;
    }

    public int where() {
        return lastTrouble == FAULT ? reader.faultAt : NONE;
    }

    // ---- now

    public int cell(int k, int what) {
        if (!granted(what < 0 || what > 3 ? NO_SUCH : cellTrouble(k))) {
            return NONE;
        }
        switch (what) {
            case 0:
                return country.groundAt(k);
            case 1:
                return now.depthAt(k);
            case 2:
                return country.placeAt(k);
            default:
                return (now.son == k ? 1 : 0) + (now.curate == k ? 2 : 0);
        }
    }

    public int place(int p, int what) {
        boolean known = p >= 0 && p < country.placeCells.count && what >= 0 && what <= 2;
        if (!granted(known ? 0 : NO_SUCH)) {
            return NONE;
        }
        switch (what) {
            case 0:
                return country.placeCells.at(p);
            case 1:
                return country.folk.at(p);
            default:
                return country.isLost(p, now.goneCells()) ? 1 : 0;
        }
    }

    public int boots(int b) {
        return granted(bootsTrouble(b)) ? country.boots.at(b) : NONE;
    }

    public int son() {
        return granted(landTrouble()) ? now.son : NONE;
    }

    public int curate() {
        return granted(landTrouble()) ? now.curate : NONE;
    }

    public int gone() {
        return granted(landTrouble()) ? Long.bitCount(now.goneCells()) : NONE;
    }

    public int lost() {
        return granted(landTrouble()) ? country.lostFolk(now.goneCells()) : NONE;
    }

    // ---- stretches, gaps

    public int stretches() {
        if (!granted(landTrouble())) {
            return NONE;
        }
        long there = country.allCells() & ~now.goneCells();
        return Long.bitCount(there & ~(there << 1));
    }

    public int longest() {
        return granted(landTrouble()) ? longestRun(country.allCells() & ~now.goneCells()) : NONE;
    }

    public int widest() {
        if (!granted(landTrouble())) {
            return NONE;
        }
        int first = longestRun(now.goneCells());
        return first == CANT ? 0 : runFrom(now.goneCells(), first);
    }

    public int between(int k, int to) {
        if (!granted(pairTrouble(k, to))) {
            return NONE;
        }
        return Long.bitCount(now.goneCells() & span(k, to));
    }

    public int deep(int k, int to) {
        return granted(pairTrouble(k, to)) ? now.depthOf(span(k, to)) : NONE;
    }

    public int nearest() {
        return granted(landTrouble()) ? country.nearestParted(now.goneCells()) : NONE;
    }

    // ---- years

    public int goneIn(int n) {
        if (!granted(numberTrouble(n, MOST_FAR))) {
            return NONE;
        }
        return Long.bitCount(goneBehind(n));
    }

    public int lostIn(int n) {
        if (!granted(numberTrouble(n, MOST_FAR))) {
            return NONE;
        }
        return country.lostFolk(goneBehind(n));
    }

    public int backIn(int k) {
        if (!granted(cellTrouble(k))) {
            return NONE;
        }
        later.copy(now);
        for (int years = 0; years <= MOST_FAR; years++) {
            if (later.depthAt(k) == 0) {
                return years;
            }
            later.passYear(country);
        }
        return CANT;
    }

    public int stillIn() {
        if (!granted(landTrouble())) {
            return NONE;
        }
        later.copy(now);
        for (int years = 0; years <= MOST_FAR; years++) {
            if (later.healing(country) == 0) {
                return years;
            }
            later.passYear(country);
        }
        return CANT;
    }

    // ---- strides

    public int leads(int b, int way) {
        return granted(strideTrouble(b, way)) ? targetNow(b, way) : NONE;
    }

    public int passes(int b, int way) {
        if (!granted(strideTrouble(b, way))) {
            return NONE;
        }
        int to = targetNow(b, way);
        return to == CANT ? CANT : Long.bitCount(inside(now.son, to) & ~now.goneCells());
    }

    public int costs(int b, int way) {
        if (!granted(strideTrouble(b, way))) {
            return NONE;
        }
        int to = targetNow(b, way);
        return to == CANT ? CANT : country.lostFolk(inside(now.son, to) & ~now.goneCells());
    }

    public int rowLeads(int row, int n) {
        if (!granted(rowTrouble(row, n))) {
            return NONE;
        }
        return makeRow(row, n) ? later.son : CANT;
    }

    public int rowLost(int row, int n) {
        if (!granted(rowTrouble(row, n))) {
            return NONE;
        }
        return makeRow(row, n) ? country.lostFolk(later.goneCells()) : CANT;
    }

    public int come(int k) {
        return granted(cellTrouble(k)) ? knownPaths().comeStrides(k) : NONE;
    }

    public int comeAt(int k, int i) {
        if (!granted(cellTrouble(k))) {
            return NONE;
        }
        int strides = knownPaths().comeStrides(k);
        if (!granted(i < 0 || i >= strides ? NO_SUCH : 0)) {
            return NONE;
        }
        return digitOf(paths.comeRow(k), strides, i);
    }

    public int spare(int k) {
        return granted(cellTrouble(k)) ? knownPaths().spareLost(k) : NONE;
    }

    public int spareRow(int k) {
        return granted(cellTrouble(k)) ? knownPaths().sparingRow(k) : NONE;
    }

    public int reach(int n) {
        if (!granted(numberTrouble(n, MOST_STRIDES))) {
            return NONE;
        }
        return (int) (knownPaths().reached(n) & LOW_THIRTY);
    }

    public int sum(int d) {
        return granted(numberTrouble(d, MOST_FAR)) ? paths.fewestFor(d, country) : NONE;
    }

    public int over(int k) {
        if (!granted(cellTrouble(k))) {
            return NONE;
        }
        int unit = country.strideUnit();
        return unit == 0 ? 0 : Math.abs(k - now.son) % unit;
    }

    public int never() {
        return granted(landTrouble()) ? paths.longestWithoutSum(country) : NONE;
    }

    // ---- the curate

    public int tour(int n) {
        return granted(numberTrouble(n, MOST_STEPS)) ? bestTour(n).folkLost : NONE;
    }

    public int tourGone(int n) {
        return granted(numberTrouble(n, MOST_STEPS)) ? bestTour(n).cellsGone : NONE;
    }

    public int tourAt(int n, int i) {
        if (!granted(numberTrouble(n, MOST_STEPS))) {
            return NONE;
        }
        if (!granted(i < 0 || i > n ? NO_SUCH : 0)) {
            return NONE;
        }
        return bestTour(n).standsBehind(now.curate, i);
    }

    public int steps(int k) {
        if (!granted(cellTrouble(k))) {
            return NONE;
        }
        int depth = now.depthAt(k);
        int way = Math.abs(k - now.curate);
        if (depth == 0) {
            return 0;
        }
        // Each coming back takes two steps: one away, one to it.
        return way == 0 ? 2 * depth : way + 2 * (depth - 1);
    }

    // ---- unsure strides

    public int fits() {
        return granted(landTrouble()) ? Integer.bitCount(country.fittingSets()) : NONE;
    }

    public int fitAt(int i) {
        int fitting = country.fittingSets();
        boolean known = i >= 0 && i < Integer.bitCount(fitting);
        if (!granted(landTrouble() == 0 && known ? 0 : NO_SUCH)) {
            return NONE;
        }
        return nthBit(fitting, i);
    }

    public int could() {
        return granted(landTrouble()) ? country.inSomeFit() : NONE;
    }

    public int surely() {
        return granted(landTrouble()) ? country.inAllFits() : NONE;
    }

    public int ask() {
        return granted(landTrouble()) ? country.bestQuestion() : NONE;
    }

    public int askLeaves() {
        if (!granted(landTrouble())) {
            return NONE;
        }
        int question = country.bestQuestion();
        return question == CANT ? CANT : country.leftBy(question, country.fittingSets());
    }

    public int judge() {
        return granted(landTrouble()) ? country.firstUnlike() : NONE;
    }

    // ---- son and county

    public int goes(int mud, boolean son, boolean county, boolean ofCounty) {
        if (!granted(numberTrouble(mud, MOST_MUD))) {
            return -100;
        }
        return ofCounty ? shareOf(mud, county, son) : shareOf(mud, son, county);
    }

    public int rests(int mud) {
        if (!granted(numberTrouble(mud, MOST_MUD))) {
            return NONE;
        }
        int count = 0;
        for (int pair = 0; pair < 4; pair++) {
            if (isRest(mud, pair >= 2, pair % 2 == 1)) {
                count++;
            }
        }
        return count;
    }

    public int rest(int mud) {
        if (!granted(numberTrouble(mud, MOST_MUD))) {
            return NONE;
        }
        for (int pair = 0; pair < 4; pair++) {
            if (isRest(mud, pair >= 2, pair % 2 == 1)) {
                return (pair >= 2 ? 10 : 0) + pair % 2;
            }
        }
        return CANT;
    }

    // ---- gout

    public long odds(int k, int row, int n, boolean lower) {
        if (!granted(cellTrouble(k) != 0 ? NO_SUCH : rowTrouble(row, n))) {
            return NONE;
        }
        chances.weigh(country, now, row, n, k);
        return inLowestTerms(chances.inCell, chances.all, lower);
    }

    public long mean(int row, int n, boolean lower) {
        if (!granted(rowTrouble(row, n))) {
            return NONE;
        }
        chances.weigh(country, now, row, n, now.son);
        return inLowestTerms(chances.folkLost, chances.all, lower);
    }

    public int drawn(int row, int n, int seed) {
        int trouble = rowTrouble(row, n);
        if (!granted(trouble != 0 ? trouble : numberTrouble(seed, MOST_SEED))) {
            return NONE;
        }
        later.copy(now);
        int draw = seed;
        for (int i = 0; i < n; i++) {
            draw = (75 * draw + 74) % 65537;
            if (draw % 100 >= country.gout) {
                later.makeStride(country, digitOf(row, n, i));
            }
        }
        return later.son;
    }

    // ---- acts

    public int stride(int b, int way) {
        if (!granted(strideTrouble(b, way))) {
            return NONE;
        }
        if (!granted(targetNow(b, way) == CANT ? NOT_SO : 0)) {
            return NONE;
        }
        history.keep(now);
        now.makeStride(country, digitFor(b, way));
        return now.son;
    }

    public int step(int way) {
        if (!granted(landTrouble() != 0 ? NO_SUCH : wayTrouble(way))) {
            return NONE;
        }
        int to = now.curate + (way == 0 ? 1 : -1);
        if (!granted(to < 0 || to >= country.cells ? NOT_SO : 0)) {
            return NONE;
        }
        history.keep(now);
        now.stepTo(to);
        return now.curate;
    }

    public int year() {
        if (!granted(landTrouble())) {
            return NONE;
        }
        if (!granted(now.years >= MOST_YEARS ? NO_ROOM : 0)) {
            return NONE;
        }
        history.keep(now);
        int before = Long.bitCount(now.goneCells());
        now.passYear(country);
        now.years++;
        return before - Long.bitCount(now.goneCells());
    }

    public int fill(int k) {
        if (!granted(cellTrouble(k))) {
            return NONE;
        }
        int depth = now.depthAt(k);
        if (!granted(depth == 0 ? NOT_SO : 0)) {
            return NONE;
        }
        history.keep(now);
        now.fillUp(k);
        return depth;
    }

    public boolean undo() {
        return granted(history.takeBack(now) ? 0 : EMPTY);
    }

    public int image() {
        if (!granted(landTrouble() != 0 ? NO_SUCH : imageCount >= IMAGES_KEPT ? NO_ROOM : 0)) {
            return NONE;
        }
        images.keep(imageCount, now);
        imageCount++;
        return imageCount - 1;
    }

    public boolean back(int image) {
        if (!granted(image < 0 || image >= imageCount ? NO_SUCH : 0)) {
            return false;
        }
        images.fetch(image, now);
        history.forget();
        return true;
    }

    // ---- what is told

    public int led(int i) throws NoSuchElementException {
        int left = i;
        for (int p = 0; p < country.placeCells.count; p++) {
            if (country.isLost(p, now.goneCells())) {
                if (left == 0) {
                    return p;
                }
                left--;
            }
        }
        throw new NoSuchElementException();
    }

    public int size(int what) {
        switch (what) {
            case 0:
                return country.cells;
            case 1:
                return country.gout;
            case 2:
                return country.boots.count;
            case 3:
                return country.placeCells.count;
            case 4:
                return country.strides.count;
            case 5:
                return country.unsure.count;
            case 6:
                return country.seenCells.count;
            case 7:
                return now.years;
            case 8:
                return history.kept;
            case 9:
                return imageCount;
            case 10:
                return reader.tapeSize;
            default:
                return NONE;
        }
    }

    public int trouble() {
        return lastTrouble;
    }

    // ---- what calls are refused for

    private boolean granted(int number) {
        lastTrouble = number;
        return number == 0;
    }

    private int landTrouble() {
        return country.cells == 0 ? NO_SUCH : 0;
    }

    /** Without a land there are no cells, so no cell is one. */
    private int cellTrouble(int k) {
        return k < 0 || k >= country.cells ? NO_SUCH : 0;
    }

    private int pairTrouble(int k, int to) {
        return cellTrouble(k) != 0 ? NO_SUCH : cellTrouble(to);
    }

    private int bootsTrouble(int b) {
        return b < 0 || b >= country.boots.count ? NO_SUCH : 0;
    }

    private static int wayTrouble(int way) {
        return way < 0 || way > 1 ? NUMBER : 0;
    }

    private int strideTrouble(int b, int way) {
        return bootsTrouble(b) != 0 ? NO_SUCH : wayTrouble(way);
    }

    private int numberTrouble(int number, int most) {
        return landTrouble() != 0 ? NO_SUCH : number < 0 || number > most ? NUMBER : 0;
    }

    private int rowTrouble(int row, int n) {
        return landTrouble() != 0 ? NO_SUCH : country.isRow(row, n) ? 0 : NUMBER;
    }

    // ---- parts of the calls

    private long goneBehind(int years) {
        later.copy(now);
        for (int i = 0; i < years; i++) {
            later.passYear(country);
        }
        return later.goneCells();
    }

    private int targetNow(int b, int way) {
        return country.target(now.goneCells(), now.son, digitFor(b, way));
    }

    private boolean makeRow(int row, int n) {
        later.copy(now);
        for (int i = 0; i < n; i++) {
            if (!later.makeStride(country, digitOf(row, n, i))) {
                return false;
            }
        }
        return true;
    }

    private Paths knownPaths() {
        paths.know(country, now);
        return paths;
    }

    private Tours bestTour(int n) {
        tours.seek(country, now, n);
        return tours;
    }

    private static int shareOf(int mud, boolean goes, boolean otherGoes) {
        if (goes) {
            return otherGoes ? -mud : 3;
        }
        return otherGoes ? -1 : 1;
    }

    private static boolean isRest(int mud, boolean sonGoes, boolean countyGoes) {
        return shareOf(mud, sonGoes, countyGoes) >= shareOf(mud, !sonGoes, countyGoes)
                && shareOf(mud, countyGoes, sonGoes) >= shareOf(mud, !countyGoes, sonGoes);
    }

    private static long inLowestTerms(long upper, long under, boolean lower) {
        long a = upper;
        long b = under;
        // Euclid: even for the widest numbers far fewer rounds than this.
        for (int round = 0; round < 200 && b != 0; round++) {
            long rest = a % b;
            a = b;
            b = rest;
        }
        if (a == 0) {
            return lower ? 1 : 0;
        }
        return (lower ? under : upper) / a;
    }

    // ---- rows, bits

    private static int digitFor(int b, int way) {
        return 2 * b + 1 + way;
    }

    /** The i-th digit of a row of n, the highest being the first. */
    private static int digitOf(int row, int n, int i) {
        int rest = row;
        for (int behind = n - 1; behind > i; behind--) {
            rest = rest / 10;
        }
        return rest % 10;
    }

    private static boolean bit(long bits, int k) {
        return k >= 0 && k < 64 && (bits >>> k & 1) == 1;
    }

    /** Cells 0 to k, without k. */
    private static long below(int k) {
        return k <= 0 ? 0 : k >= 64 ? -1L : (1L << k) - 1;
    }

    /** Both cells, and all between them. */
    private static long span(int k, int to) {
        return below(Math.max(k, to) + 1) & ~below(Math.min(k, to));
    }

    /** All cells between the two, without these. */
    private static long inside(int k, int to) {
        return below(Math.max(k, to)) & ~below(Math.min(k, to) + 1);
    }

    private static int runFrom(long bits, int first) {
        int length = 0;
        for (int k = first; k < MOST_CELLS && bit(bits, k); k++) {
            length++;
        }
        return length;
    }

    private static int longestRun(long bits) {
        int best = CANT;
        int most = 0;
        int k = 0;
        while (k < MOST_CELLS) {
            int length = runFrom(bits, k);
            if (length > most) {
                most = length;
                best = k;
            }
            k += length + 1;
        }
        return best;
    }

    private static int nthBit(int bits, int n) {
        int left = n;
        for (int k = 0; k < 32; k++) {
            if (bit(bits, k)) {
                if (left == 0) {
                    return k;
                }
                left--;
            }
        }
        return NONE;
    }

    /** A few numbers in a row, as many as there is room for. */
    private static final class Numbers {
        private final int[] values;
        int count = 0;

        Numbers(int room) {
            values = new int[Math.max(room, 0)];
        }

        void add(int value) {
            if (count >= 0 && count < values.length) {
                values[count] = value;
                count++;
            }
        }

        int at(int i) {
            return i >= 0 && i < count && i < values.length ? values[i] : NONE;
        }

        int indexOf(int value) {
            for (int i = 0; i < count; i++) {
                if (at(i) == value) {
                    return i;
                }
            }
            return CANT;
        }
    }

    /** A land as it was told; what goes on in it is a State's. */
    private static final class Country {
        int cells = 0;
        int gout = 0;
        int sonFirst = 0;
        int curateFirst = 0;
        private long bog = 0;
        private long wood = 0;
        final Numbers boots = new Numbers(3);
        final Numbers placeCells = new Numbers(6);
        final Numbers folk = new Numbers(6);
        final Numbers strides = new Numbers(8);
        final Numbers unsure = new Numbers(4);
        final Numbers seenCells = new Numbers(6);
        final Numbers seenGone = new Numbers(6);
        int toldSon = 0;
        long toldGone = 0;

        void clear() {
            cells = 0;
            gout = 0;
            sonFirst = 0;
            curateFirst = 0;
            bog = 0;
            wood = 0;
            boots.count = 0;
            placeCells.count = 0;
            folk.count = 0;
            strides.count = 0;
            unsure.count = 0;
            seenCells.count = 0;
            seenGone.count = 0;
            toldSon = 0;
            toldGone = 0;
        }

        long allCells() {
            return below(cells);
        }

        void setGround(int sort, long where) {
            bog = sort == 1 ? bog | where : bog & ~where;
            wood = sort == 2 ? wood | where : wood & ~where;
        }

        int groundAt(int k) {
            return bit(bog, k) ? 1 : bit(wood, k) ? 2 : 0;
        }

        /** Of how deep cells go, the bits of value 1: heath 1, wood 3. */
        long lowDepth(long where) {
            return where & ~bog;
        }

        /** Of how deep cells go, the bits of value 2: bog 2, wood 3. */
        long highDepth(long where) {
            return where & (bog | wood);
        }

        long healable(long where) {
            return where & ~bog;
        }

        int placeAt(int k) {
            return placeCells.indexOf(k);
        }

        boolean isLost(int p, long gone) {
            return bit(gone, placeCells.at(p));
        }

        int lostFolk(long gone) {
            int sum = 0;
            for (int p = 0; p < placeCells.count; p++) {
                if (isLost(p, gone)) {
                    sum += folk.at(p);
                }
            }
            return sum;
        }

        int nearestParted(long gone) {
            int best = CANT;
            int fewest = MOST_CELLS + 1;
            for (int p = 0; p < placeCells.count; p++) {
                for (int q = p + 1; q < placeCells.count; q++) {
                    int apart = Long.bitCount(gone & inside(placeCells.at(p), placeCells.at(q)));
                    // None gone between them: they stand in one stretch.
                    if (!isLost(p, gone) && !isLost(q, gone) && apart > 0 && apart < fewest) {
                        fewest = apart;
                        best = 10 * p + q;
                    }
                }
            }
            return best;
        }

        /** Where a stride leads, or CANT. */
        int target(long gone, int from, int digit) {
            int length = boots.at((digit - 1) / 2);
            int to = digit % 2 == 1 ? from + length : from - length;
            return to < 0 || to >= cells || bit(gone, to) ? CANT : to;
        }

        boolean isRow(int row, int n) {
            if (n < 0 || n > MOST_STRIDES || row < 0) {
                return false;
            }
            int rest = row;
            for (int i = 0; i < n; i++) {
                int digit = rest % 10;
                if (digit < 1 || digit > 2 * boots.count) {
                    return false;
                }
                rest = rest / 10;
            }
            return rest == 0;
        }

        /** The greatest number that parts all strides without a rest. */
        int strideUnit() {
            for (int unit = 9; unit > 0; unit--) {
                if (partsAll(unit)) {
                    return unit;
                }
            }
            return 0;
        }

        private boolean partsAll(int unit) {
            for (int b = 0; b < boots.count; b++) {
                if (unit <= 0 || boots.at(b) % unit != 0) {
                    return false;
                }
            }
            return true;
        }

        /** Of sets of unsure strides, by their numbers as bits: those that fit. */
        int fittingSets() {
            int fitting = 0;
            int sets = 1 << unsure.count;
            for (int set = 0; set < sets; set++) {
                if (cells > 0 && fitsAll(set)) {
                    fitting |= 1 << set;
                }
            }
            return fitting;
        }

        private boolean fitsAll(int set) {
            long gone = 0;
            int at = sonFirst;
            for (int i = 0; i < strides.count; i++) {
                int to = target(gone, at, digitIn(set, i));
                if (to == CANT) {
                    return false;
                }
                gone |= inside(at, to);
                at = to;
            }
            return unlikeSeen(gone) == CANT;
        }

        private int digitIn(int set, int i) {
            int digit = strides.at(i);
            if (!bit(set, unsure.indexOf(i))) {
                return digit;
            }
            return digit % 2 == 1 ? digit + 1 : digit - 1;
        }

        private int unlikeSeen(long gone) {
            for (int i = 0; i < seenCells.count; i++) {
                if (bit(gone, seenCells.at(i)) != (seenGone.at(i) == 1)) {
                    return i;
                }
            }
            return CANT;
        }

        int firstUnlike() {
            return unlikeSeen(toldGone);
        }

        int inSomeFit() {
            int fitting = fittingSets();
            int some = 0;
            for (int set = 0; set < 16; set++) {
                if (bit(fitting, set)) {
                    some |= set;
                }
            }
            return some;
        }

        int inAllFits() {
            int fitting = fittingSets();
            int all = fitting == 0 ? 0 : 15;
            for (int set = 0; set < 16; set++) {
                if (bit(fitting, set)) {
                    all &= set;
                }
            }
            return all;
        }

        /** How many fits are left at most once it is told whether one unsure stride was as told. */
        int leftBy(int question, int fitting) {
            int with = 0;
            for (int set = 0; set < 16; set++) {
                if (bit(fitting, set) && bit(set, question)) {
                    with++;
                }
            }
            return Math.max(with, Integer.bitCount(fitting) - with);
        }

        int bestQuestion() {
            int fitting = fittingSets();
            int best = CANT;
            int fewest = 17;
            for (int question = 0; question < unsure.count && fitting != 0; question++) {
                int left = leftBy(question, fitting);
                if (left < fewest) {
                    fewest = left;
                    best = question;
                }
            }
            return best;
        }
    }

    /** What is so at one time. How deep each cell is gone stands in two rows of bits, of value 1 and 2. */
    private static final class State {
        long low = 0;
        long high = 0;
        int son = 0;
        int curate = 0;
        int years = 0;

        void begin(Country land) {
            low = land.lowDepth(land.toldGone);
            high = land.highDepth(land.toldGone);
            son = land.toldSon;
            curate = land.curateFirst;
            years = 0;
        }

        void copy(State other) {
            low = other.low;
            high = other.high;
            son = other.son;
            curate = other.curate;
            years = other.years;
        }

        long goneCells() {
            return low | high;
        }

        int depthAt(int k) {
            return (bit(low, k) ? 1 : 0) + (bit(high, k) ? 2 : 0);
        }

        int depthOf(long where) {
            return Long.bitCount(low & where) + 2 * Long.bitCount(high & where);
        }

        boolean makeStride(Country land, int digit) {
            int to = land.target(goneCells(), son, digit);
            if (to == CANT) {
                return false;
            }
            long fresh = inside(son, to) & ~goneCells();
            low |= land.lowDepth(fresh);
            high |= land.highDepth(fresh);
            son = to;
            return true;
        }

        void stepTo(int to) {
            curate = to;
            lessen(goneCells() & span(to, to));
        }

        /** Cells that a year makes less deep. */
        long healing(Country land) {
            long there = land.allCells() & ~goneCells();
            return land.healable(goneCells() & (there << 1 | there >>> 1));
        }

        void passYear(Country land) {
            lessen(healing(land));
        }

        void fillUp(int k) {
            low &= ~span(k, k);
            high &= ~span(k, k);
        }

        private void lessen(long where) {
            long borrow = where & ~low;
            low ^= where;
            high ^= borrow;
        }
    }

    /** Room for some states. */
    private static final class Shelf {
        private final long[] lows;
        private final long[] highs;
        private final int[] sons;
        private final int[] curates;
        private final int[] years;

        Shelf(int room) {
            int length = Math.max(room, 0);
            lows = new long[length];
            highs = new long[length];
            sons = new int[length];
            curates = new int[length];
            years = new int[length];
        }

        private boolean has(int i) {
            return i >= 0 && i < lows.length && i < highs.length && i < sons.length
                    && i < curates.length && i < years.length;
        }

        void keep(int i, State state) {
            if (has(i)) {
                lows[i] = state.low;
                highs[i] = state.high;
                sons[i] = state.son;
                curates[i] = state.curate;
                years[i] = state.years;
            }
        }

        void fetch(int i, State state) {
            if (has(i)) {
                state.low = lows[i];
                state.high = highs[i];
                state.son = sons[i];
                state.curate = curates[i];
                state.years = years[i];
            }
        }
    }

    /** States ahead of the latest acts, the oldest of which give way. */
    private static final class History {
        private final Shelf shelf = new Shelf(ACTS_KEPT);
        private int next = 0;
        int kept = 0;

        void forget() {
            kept = 0;
        }

        void keep(State state) {
            shelf.keep(next, state);
            next = (next + 1) % ACTS_KEPT;
            kept = Math.min(kept + 1, ACTS_KEPT);
        }

        boolean takeBack(State state) {
            if (kept == 0) {
                return false;
            }
            next = (next + ACTS_KEPT - 1) % ACTS_KEPT;
            kept--;
            shelf.fetch(next, state);
            return true;
        }
    }

    /** Where rows of strides lead from one state, for all cells at once; sums of strides. */
    private static final class Paths {
        private final int[] comeLengths = new int[MOST_CELLS];
        private final int[] comeRows = new int[MOST_CELLS];
        private final int[] spareFolk = new int[MOST_CELLS];
        private final int[] spareLengths = new int[MOST_CELLS];
        private final int[] spareRows = new int[MOST_CELLS];
        private final long[] reachedBy = new long[MOST_STRIDES + 1];
        private final int[] fewest = new int[MOST_FAR + 1];
        private Country land = null;
        private long fromGone = 0;
        private int fromSon = 0;
        private int fromLost = 0;
        private long placesThere = 0;

        /** To be called when a land is told anew: the same object may then hold another land. */
        void forget() {
            land = null;
        }

        /** Rows hang on what is gone and on where the son is, not on how deep it is. */
        void know(Country country, State now) {
            if (land == country && fromGone == now.goneCells() && fromSon == now.son) {
                return;
            }
            land = country;
            fromGone = now.goneCells();
            fromSon = now.son;
            fromLost = country.lostFolk(fromGone);
            placesThere = 0;
            for (int p = 0; p < country.placeCells.count; p++) {
                int k = country.placeCells.at(p);
                placesThere |= span(k, k);
            }
            for (int k = 0; k < MOST_CELLS; k++) {
                put(comeLengths, k, CANT);
                put(spareFolk, k, CANT);
                put(spareRows, k, CANT);
            }
            for (int n = 0; n < reachedBy.length; n++) {
                reachedBy[n] = 0;
            }
            explore(country, 0, fromGone, fromSon, 0, fromLost);
        }

        private void explore(Country country, int made, long gone, int son, int row, int lost) {
            note(made, son, row, lost - fromLost);
            if (made >= MOST_STRIDES) {
                return;
            }
            for (int digit = 1; digit <= 2 * country.boots.count; digit++) {
                int to = country.target(gone, son, digit);
                if (to != CANT) {
                    long fresh = inside(son, to) & ~gone;
                    int lostThen = (fresh & placesThere) == 0 ? lost : country.lostFolk(gone | fresh);
                    explore(country, made + 1, gone | fresh, to, row * 10 + digit, lostThen);
                }
            }
        }

        /** Rows of one length come by their digits, so a later one must be better to be taken. */
        private void note(int made, int son, int row, int folk) {
            if (made >= 0 && made < reachedBy.length) {
                reachedBy[made] |= span(son, son);
            }
            int length = get(comeLengths, son);
            if (length == CANT || made < length) {
                put(comeLengths, son, made);
                put(comeRows, son, row);
            }
            int least = get(spareFolk, son);
            if (least == CANT || folk < least || folk == least && made < get(spareLengths, son)) {
                put(spareFolk, son, folk);
                put(spareLengths, son, made);
                put(spareRows, son, row);
            }
        }

        int comeStrides(int k) {
            return get(comeLengths, k);
        }

        int comeRow(int k) {
            return get(comeRows, k);
        }

        int spareLost(int k) {
            return get(spareFolk, k);
        }

        int sparingRow(int k) {
            return get(spareRows, k);
        }

        long reached(int n) {
            long cells = 0;
            for (int made = 0; made <= n && made < reachedBy.length; made++) {
                cells |= reachedBy[made];
            }
            return cells;
        }

        int fewestFor(int way, Country country) {
            put(fewest, 0, 0);
            for (int d = 1; d <= way; d++) {
                int best = CANT;
                for (int b = 0; b < country.boots.count; b++) {
                    int rest = get(fewest, d - country.boots.at(b));
                    if (rest != CANT && (best == CANT || rest + 1 < best)) {
                        best = rest + 1;
                    }
                }
                put(fewest, d, best);
            }
            return get(fewest, way);
        }

        int longestWithoutSum(Country country) {
            fewestFor(MOST_FAR, country);
            for (int way = MOST_FAR; way >= 0; way--) {
                if (get(fewest, way) == CANT) {
                    return way;
                }
            }
            return CANT;
        }

        private static int get(int[] row, int i) {
            return i >= 0 && i < row.length ? row[i] : CANT;
        }

        private static void put(int[] row, int i, int value) {
            if (i >= 0 && i < row.length) {
                row[i] = value;
            }
        }
    }

    /** How the curate should go; its row of steps stands as bits, the first step's the lowest, 1 being down. */
    private static final class Tours {
        int folkLost = 0;
        int cellsGone = 0;
        private int path = 0;
        private int length = 0;
        private boolean found = false;
        private final State walk = new State();

        void seek(Country land, State now, int n) {
            found = false;
            length = n;
            walkOn(land, 0, now.low, now.high, now.curate, 0);
        }

        private void walkOn(Country land, int made, long low, long high, int at, int steps) {
            if (made >= length || made >= MOST_STEPS) {
                compare(land, low | high, steps);
                return;
            }
            for (int way = 0; way <= 1; way++) {
                int to = way == 0 ? at + 1 : at - 1;
                if (to >= 0 && to < land.cells) {
                    walk.low = low;
                    walk.high = high;
                    walk.stepTo(to);
                    walkOn(land, made + 1, walk.low, walk.high, to, steps | way << made);
                }
            }
        }

        private void compare(Country land, long gone, int steps) {
            int folk = land.lostFolk(gone);
            int cells = Long.bitCount(gone);
            if (!found || folk < folkLost || folk == folkLost && cells < cellsGone) {
                found = true;
                folkLost = folk;
                cellsGone = cells;
                path = steps;
            }
        }

        int standsBehind(int from, int steps) {
            int at = from;
            for (int i = 0; i < steps; i++) {
                at += bit(path, i) ? -1 : 1;
            }
            return at;
        }
    }

    /** Rows with gout: each stride has gout parts of a hundred not to be made. */
    private static final class Chances {
        long inCell = 0;
        long folkLost = 0;
        long all = 1;
        private int row = 0;
        private int strides = 0;
        private int goal = 0;

        void weigh(Country land, State now, int row, int n, int goal) {
            this.row = row;
            this.strides = n;
            this.goal = goal;
            inCell = 0;
            folkLost = 0;
            all = 1;
            for (int i = 0; i < n; i++) {
                all *= 100;
            }
            goOn(land, 0, now.goneCells(), now.son, 1);
        }

        private void goOn(Country land, int made, long gone, int son, long weight) {
            if (made >= strides || made >= MOST_STRIDES) {
                inCell += son == goal ? weight : 0;
                folkLost += weight * land.lostFolk(gone);
                return;
            }
            int to = land.target(gone, son, digitOf(row, strides, made));
            if (to == CANT) {
                goOn(land, made + 1, gone, son, weight * 100);
                return;
            }
            goOn(land, made + 1, gone, son, weight * land.gout);
            goOn(land, made + 1, gone | inside(son, to), to, weight * (100 - land.gout));
        }
    }

    /** The tape, and how a land is read from it: token by token, up to the first fault. */
    private static final class Reader {
        private static final int END = 0;
        private static final int WORD = 1;
        private static final int WHOLE = 2;
        private static final int MARK = 3;
        private static final int WRONG = 4;

        private static final int NO_WORD = -2;
        private static final int NAME = -1;
        private static final int LAND = 0;
        private static final int GROUND = 1;
        private static final int BOOTS = 2;
        private static final int PLACE = 3;
        private static final int STRIDE = 4;
        private static final int UNSURE = 5;
        private static final int SEEN = 6;
        private static final int[] ROOM = {1, 6, 3, 6, 8, 4, 6};

        private static final int FORM = 1;
        private static final int UNTOLD = 2;
        private static final int AGAIN = 3;
        private static final int BOUNDS = 4;
        private static final int MANY = 5;
        private static final int LACKS = 6;
        private static final int STUCK = 7;
        private static final int LATE = 8;

        private final byte[] tape = new byte[TAPE_ROOM];
        int tapeSize = 0;
        private int end = 0;
        private int kind = END;
        private int from = 0;
        private int to = 0;
        private int value = 0;
        Country draft = new Country();
        private final int[] told = new int[7];
        private final Numbers nameFrom = new Numbers(9);
        private final Numbers nameTo = new Numbers(9);
        private final Numbers nameBoots = new Numbers(9);
        int firstFault = 0;
        int faultAt = 0;

        void append(int number) {
            for (int shift = 24; shift >= 0; shift -= 8) {
                if (tapeSize >= 0 && tapeSize < tape.length) {
                    tape[tapeSize] = (byte) (number >> shift);
                    tapeSize++;
                }
            }
        }

        /** Reads n bytes into the draft, which is a whole land if there is no fault; the tape is empty then. */
        void read(int n) {
            begin(n);
            // Each line takes bytes of its own, so there are fewer lines than bytes.
            for (int line = 0; line <= end; line++) {
                nextToken();
                if (!readLine()) {
                    return;
                }
                nextToken();
                if (kind != MARK) {
                    endText();
                    return;
                }
            }
        }

        private void begin(int n) {
            end = Math.min(n, tapeSize);
            tapeSize = 0;
            to = 0;
            firstFault = 0;
            faultAt = 0;
            draft.clear();
            for (int sort = 0; sort < told.length; sort++) {
                told[sort] = 0;
            }
            nameFrom.count = 0;
            nameTo.count = 0;
            nameBoots.count = 0;
        }

        private void endText() {
            if (kind != END) {
                fail(FORM);
            } else if (draft.boots.count == 0) {
                fail(LACKS);
            }
        }

        private boolean readLine() {
            int sort = sortHere();
            if (!headFits(sort)) {
                return false;
            }
            switch (sort) {
                case LAND:
                    return readLand();
                case GROUND:
                    return readGround();
                case BOOTS:
                    return readBoots();
                case PLACE:
                    return readPlace();
                case STRIDE:
                    return readStride();
                case UNSURE:
                    return readUnsure();
                default:
                    return readSeen();
            }
        }

        /** In the order of their numbers: all these faults would be at the line's first word. */
        private boolean headFits(int sort) {
            if (sort < 0 || sort >= told.length || sort >= ROOM.length) {
                return fail(FORM);
            }
            boolean full = told[sort] >= ROOM[sort];
            if (full) {
                return fail(sort == LAND ? AGAIN : MANY);
            }
            if (sort != LAND && told[LAND] == 0) {
                return fail(LACKS);
            }
            if (sort == GROUND && told[STRIDE] > 0) {
                return fail(LATE);
            }
            told[sort]++;
            return true;
        }

        private boolean readLand() {
            if (!expect("cells") || !expectWhole(8, MOST_CELLS)) {
                return false;
            }
            draft.cells = value;
            if (!expect("son") || !expectCell(0)) {
                return false;
            }
            draft.sonFirst = value;
            draft.toldSon = value;
            if (!expect("curate") || !expectCell(0)) {
                return false;
            }
            draft.curateFirst = value;
            if (!expect("gout") || !expectWhole(0, 100)) {
                return false;
            }
            draft.gout = value;
            return true;
        }

        private boolean readGround() {
            nextToken();
            int sort = isWord("heath") ? 0 : isWord("bog") ? 1 : isWord("wood") ? 2 : CANT;
            if (sort == CANT) {
                return fail(FORM);
            }
            if (!expectCell(0)) {
                return false;
            }
            int first = value;
            if (!expectCell(first)) {
                return false;
            }
            draft.setGround(sort, span(first, value));
            return true;
        }

        private boolean readBoots() {
            if (!expectNewName(draft.boots.count) || !expectWhole(2, 9)) {
                return false;
            }
            draft.boots.add(value);
            return true;
        }

        private boolean readPlace() {
            if (!expectNewName(NONE) || !expect("at") || !expectCell(0)) {
                return false;
            }
            if (draft.placeAt(value) != CANT) {
                return fail(AGAIN);
            }
            draft.placeCells.add(value);
            if (!expect("folk") || !expectWhole(1, 99)) {
                return false;
            }
            draft.folk.add(value);
            return true;
        }

        private boolean readStride() {
            nextToken();
            if (sortHere() != NAME) {
                return fail(FORM);
            }
            int boots = nameBoots.at(nameHere());
            if (boots == NONE) {
                return fail(UNTOLD);
            }
            nextToken();
            int way = isWord("up") ? 0 : isWord("down") ? 1 : CANT;
            if (way == CANT) {
                return fail(FORM);
            }
            int digit = digitFor(boots, way);
            int target = draft.target(draft.toldGone, draft.toldSon, digit);
            if (target == CANT) {
                return fail(STUCK);
            }
            draft.toldGone |= inside(draft.toldSon, target);
            draft.toldSon = target;
            draft.strides.add(digit);
            return true;
        }

        private boolean readUnsure() {
            if (!expectWhole(1, draft.strides.count)) {
                return false;
            }
            if (draft.unsure.indexOf(value - 1) != CANT) {
                return fail(AGAIN);
            }
            draft.unsure.add(value - 1);
            return true;
        }

        private boolean readSeen() {
            if (!expectCell(0)) {
                return false;
            }
            if (draft.seenCells.indexOf(value) != CANT) {
                return fail(AGAIN);
            }
            draft.seenCells.add(value);
            nextToken();
            int how = isWord("gone") ? 1 : isWord("there") ? 0 : CANT;
            if (how == CANT) {
                return fail(FORM);
            }
            draft.seenGone.add(how);
            return true;
        }

        private boolean fail(int number) {
            firstFault = number;
            faultAt = from;
            return false;
        }

        private boolean expect(String word) {
            nextToken();
            return isWord(word) || fail(FORM);
        }

        private boolean expectWhole(int least, int most) {
            nextToken();
            if (kind != WHOLE) {
                return fail(FORM);
            }
            return value >= least && value <= most || fail(BOUNDS);
        }

        private boolean expectCell(int least) {
            return expectWhole(least, draft.cells - 1);
        }

        /** boots is the number of the boots that the name is of, or NONE for a place. */
        private boolean expectNewName(int boots) {
            nextToken();
            if (sortHere() != NAME) {
                return fail(FORM);
            }
            if (nameHere() != NONE) {
                return fail(AGAIN);
            }
            nameFrom.add(from);
            nameTo.add(to);
            nameBoots.add(boots);
            return true;
        }

        /** Which name told so far is the one that stands here; NONE if it wasn't told. */
        private int nameHere() {
            for (int i = 0; i < nameFrom.count; i++) {
                if (isLike(nameFrom.at(i), nameTo.at(i))) {
                    return i;
                }
            }
            return NONE;
        }

        private boolean isLike(int otherFrom, int otherTo) {
            if (otherTo - otherFrom != to - from) {
                return false;
            }
            for (int i = 0; i < to - from; i++) {
                if (byteAt(otherFrom + i) != byteAt(from + i)) {
                    return false;
                }
            }
            return true;
        }

        /** Which sort of line the word here begins; NAME if none. */
        private int sortHere() {
            if (kind != WORD) {
                return NO_WORD;
            }
            if (isWord("land")) {
                return LAND;
            }
            if (isWord("ground")) {
                return GROUND;
            }
            if (isWord("boots")) {
                return BOOTS;
            }
            if (isWord("place")) {
                return PLACE;
            }
            if (isWord("stride")) {
                return STRIDE;
            }
            if (isWord("unsure")) {
                return UNSURE;
            }
            return isWord("seen") ? SEEN : NAME;
        }

        private boolean isWord(String word) {
            if (kind != WORD || word.length() != to - from) {
                return false;
            }
            for (int i = 0; i < word.length(); i++) {
                if (byteAt(from + i) != word.charAt(i)) {
                    return false;
                }
            }
            return true;
        }

        /** Goes on to the next token; letters or digits that are too many together are none. */
        private void nextToken() {
            from = to;
            while (from < end && byteAt(from) == ' ') {
                from++;
            }
            to = from;
            if (from >= end) {
                kind = END;
            } else if (isLetter(byteAt(from))) {
                while (to < end && isLetter(byteAt(to))) {
                    to++;
                }
                kind = to - from <= 8 ? WORD : WRONG;
            } else if (isDigit(byteAt(from))) {
                value = 0;
                while (to < end && isDigit(byteAt(to))) {
                    value = to - from < 3 ? value * 10 + byteAt(to) - '0' : value;
                    to++;
                }
                kind = to - from <= 3 ? WHOLE : WRONG;
            } else {
                kind = byteAt(from) == ';' ? MARK : WRONG;
                to++;
            }
        }

        private static boolean isLetter(int sign) {
            return sign >= 'a' && sign <= 'z';
        }

        private static boolean isDigit(int sign) {
            return sign >= '0' && sign <= '9';
        }

        private int byteAt(int i) {
            return i >= 0 && i < end && i < tape.length ? tape[i] : -1;
        }
    }
}
