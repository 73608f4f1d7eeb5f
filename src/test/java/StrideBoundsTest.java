/** The bounds of strides, rows, sums, and of the curate's steps, sentence by sentence: term III, promises 23 to 39. */
public final class StrideBoundsTest {
    private static final Due due = new Due();
    /** Up to five strides of two from 0 lead to 10; a sixth one would lead to 12. */
    private static final String TWOS = "land cells 60 son 0 curate 0 gout 0;boots b 2;place p at 1 folk 8;place q at 9 folk 99";
    /** 8 and 9 can be come to by strides of 2 and 3 in many ways; places at 5 and 6. */
    private static final String BOTH = "land cells 20 son 4 curate 6 gout 25;boots two 2;boots three 3;place a at 5 folk 1;place b at 6 folk 1";

    public static void main(String[] args) {
        leads();
        passes();
        costs();
        rowLeads();
        rowLost();
        come();
        comeAt();
        spare();
        spareRow();
        reach();
        sum();
        over();
        never();
        tour();
        tourGone();
        tourAt();
        steps();
        due.had(23, 39);
        due.end();
    }

    private static SevenLeague landed(String text) {
        return Tapes.landed(text);
    }

    private static SevenLeague inBoots(int cells, int son, int length) {
        return landed("land cells " + cells + " son " + son + " curate 0 gout 0;boots b " + length);
    }

    // ---- one stride

    private static void leads() {
        due.promise(23, "Where a STRIDE in boots leads (way 0 up, 1 down); -2 he can't");
        for (int cells : new int[] {10, 60}) {
            for (int length = 2; length <= 9; length++) {
                SevenLeague x = inBoots(cells, cells - 1 - length, length);
                due.granted("leads(0, 0) to the last cell", cells - 1, x.leads(0, 0), x);
                x = inBoots(cells, cells - length, length);
                due.granted("leads(0, 0) one beyond", -2, x.leads(0, 0), x);
                x = inBoots(cells, length, length);
                due.granted("leads(0, 1) to cell 0", 0, x.leads(0, 1), x);
                x = inBoots(cells, length - 1, length);
                due.granted("leads(0, 1) one below", -2, x.leads(0, 1), x);
            }
        }
        SevenLeague three = landed(Lands.THREE);
        due.granted("leads(1, 1) onto what is gone", -2, three.leads(1, 1), three);
        due.granted("leads(0, 1)", 0, three.leads(0, 1), three);
        due.is("he stays", 4, three.son());
        due.promise(23, "NONE: 1; 2 (way)");
        wrongStrides("leads");
    }

    private static int asked(String call, SevenLeague x, int b, int way) {
        return switch (call) {
            case "leads" -> x.leads(b, way);
            case "passes" -> x.passes(b, way);
            default -> x.costs(b, way);
        };
    }

    private static void wrongStrides(String call) {
        SevenLeague three = landed(Lands.MOST), one = landed(Lands.LEAST), none = new SevenLeague();
        for (int way = 0; way <= 1; way++) {
            for (int b = 0; b <= 2; b++) due.is(call + " of boots " + b + " is answered", true, asked(call, three, b, way) != -1);
            for (int b : Numbers.outside(0, 2)) due.refused(call + "(" + b + ", " + way + ")", asked(call, three, b, way), three, 1);
            for (int b : Numbers.outside(0, 0)) due.refused(call + "(" + b + ", " + way + ") of one", asked(call, one, b, way), one, 1);
            due.refused(call + " without a land", asked(call, none, 0, way), none, 1);
        }
        for (int way : Numbers.outside(0, 1)) {
            due.refused(call + "(2, " + way + ")", asked(call, three, 2, way), three, 2);
            due.refused(call + "(3, " + way + ")", asked(call, three, 3, way), three, 1);
            due.refused(call + "(0, " + way + ") without a land", asked(call, none, 0, way), none, 1);
        }
    }

    private static void passes() {
        due.promise(24, "How many CELLS more are GONE by it; -2 he can't");
        for (int length = 2; length <= 9; length++) {
            SevenLeague x = inBoots(60, 30, length);
            due.granted("passes(0, 0)", length - 1, x.passes(0, 0), x);
            due.granted("passes(0, 1)", length - 1, x.passes(0, 1), x);
            x.stride(0, 0);
            due.granted("passes(0, 1), all gone already", 0, x.passes(0, 1), x);
            x.fill(31);
            due.granted("passes(0, 1), one there", 1, x.passes(0, 1), x);
        }
        SevenLeague edge = inBoots(8, 0, 8), three = landed(Lands.THREE);
        due.granted("passes(0, 0), no such cell", -2, edge.passes(0, 0), edge);
        due.granted("passes(0, 1), no such cell", -2, edge.passes(0, 1), edge);
        due.granted("passes(1, 1), gone", -2, three.passes(1, 1), three);
        due.is("gone() stays", 3, three.gone());
        due.promise(24, "NONE: 1; 2");
        wrongStrides("passes");
    }

    private static void costs() {
        due.promise(25, "Folk more that are LOST by it; -2 he can't");
        String text = "land cells 10 son 0 curate 0 gout 0;boots nine 9;place a at 0 folk 50;place b at 9 folk 60";
        SevenLeague ends = landed(text);
        due.granted("costs(0, 0), both ends don't count", 0, ends.costs(0, 0), ends);
        SevenLeague x = landed(text.replace("at 0", "at 1").replace("at 9", "at 8"));
        due.granted("costs(0, 0), the cells next to both ends do", 110, x.costs(0, 0), x);
        x.stride(0, 0);
        due.granted("costs(0, 1), lost already", 0, x.costs(0, 1), x);
        x.fill(8);
        due.granted("costs(0, 1), one there again", 60, x.costs(0, 1), x);
        due.granted("costs(0, 0), no such cell", -2, x.costs(0, 0), x);
        SevenLeague three = landed(Lands.THREE), most = landed(Lands.MOST);
        due.granted("costs(1, 1), gone", -2, three.costs(1, 1), three);
        due.is("lost() stays", 50, x.lost());
        for (int p = 0; p < 6; p++) most.fill(33 + p);
        most.stride(1, 0);
        due.is("costs(0, 0), most", 594, most.costs(0, 0));
        due.promise(25, "NONE: 1; 2");
        wrongStrides("costs");
    }

    // ---- rows

    private static int rowAsked(boolean leads, SevenLeague x, int row, int n) {
        return leads ? x.rowLeads(row, n) : x.rowLost(row, n);
    }

    private static void wrongRows(boolean leads) {
        String call = leads ? "rowLeads(" : "rowLost(";
        String boots = ";boots a 2;boots b 3;boots c 4";
        for (int count = 1; count <= 3; count++) {
            SevenLeague x = landed("land cells 60 son 30 curate 0 gout 0" + boots.substring(0, 10 * count));
            for (int digit = 0; digit <= 9; digit++) {
                for (int n = 1; n <= 5; n++) {
                    for (int at = 0; at < n; at++) {
                        StringBuilder row = new StringBuilder("1".repeat(n));
                        row.setCharAt(at, (char) ('0' + digit));
                        int got = rowAsked(leads, x, Integer.parseInt(row.toString()), n);
                        if (digit == 0 || digit > 2 * count) due.refused(call + row + ", " + n + ") of " + count, got, x, 2);
                        else due.is(call + row + ", " + n + ") of " + count + " is answered", true, got != -1 && x.trouble() == 0);
                    }
                }
            }
        }
        SevenLeague x = landed(Lands.MOST), none = new SevenLeague();
        for (int n = 0; n <= 5; n++) {
            int row = Integer.parseInt("0" + "1".repeat(n));
            due.refused(call + "a digit more, " + n + ")", rowAsked(leads, x, row * 10 + 1, n), x, 2);
            due.refused(call + "a digit more ahead, 0 between, " + n + ")", rowAsked(leads, x, row + 1000000, n), x, 2);
            if (n > 0) due.refused(call + "a digit less, " + n + ")", rowAsked(leads, x, row / 10, n), x, 2);
            for (int below : new int[] {-1, -row, -row - 1, row - 1000000, Integer.MIN_VALUE, Integer.MIN_VALUE + 1}) {
                if (below < 0) due.refused(call + below + ", " + n + ")", rowAsked(leads, x, below, n), x, 2);
            }
            for (int above : new int[] {1111111111, 2111111111, Integer.MAX_VALUE}) {
                due.refused(call + above + ", " + n + ")", rowAsked(leads, x, above, n), x, 2);
            }
            due.refused(call + row + ", " + n + ") without a land", rowAsked(leads, none, row, n), none, 1);
        }
        for (int n : Numbers.outside(0, 5)) {
            for (int row : new int[] {0, 1, 11, 111111, 1111111111}) due.refused(call + row + ", " + n + ")", rowAsked(leads, x, row, n), x, 2);
            due.refused(call + "0, " + n + ") without a land", rowAsked(leads, none, 0, n), none, 1);
        }
        due.refused(call + "-1, 0) without a land", rowAsked(leads, none, -1, 0), none, 1);
    }

    private static void rowLeads() {
        due.term("III. From NOW on. A ROW of strides: digits, n of them (0 .. 5), the first one's the highest: 1 up in the first boots, "
                + "2 down, 3 up in the second ones, 4 down, 5, 6 in the third ones: made one behind the other, if each can be");
        SevenLeague x = landed("land cells 60 son 30 curate 0 gout 0;boots a 9;boots b 4;boots c 2");
        int[] to = {39, 21, 34, 26, 32, 28};
        for (int digit = 1; digit <= 6; digit++) due.granted("rowLeads(" + digit + ", 1)", to[digit - 1], x.rowLeads(digit, 1), x);
        due.is("rowLeads(64, 2)", 24, x.rowLeads(64, 2));
        due.is("rowLeads(46, 2)", 24, x.rowLeads(46, 2));
        due.is("rowLeads(36, 2), 32 being gone by the first", -2, x.rowLeads(36, 2));
        due.is("rowLeads(63, 2), 32 being there", 32, x.rowLeads(63, 2));
        due.promise(26, "Where he is behind a ROW; -2 it can't be made");
        SevenLeague twos = landed(TWOS);
        int row = 0;
        for (int n = 0; n <= 5; n++) {
            due.granted("rowLeads(" + row + ", " + n + ")", 2 * n, twos.rowLeads(row, n), twos);
            row = 10 * row + 1;
        }
        due.granted("rowLeads(2, 1), the first can't be made", -2, twos.rowLeads(2, 1), twos);
        due.granted("rowLeads(21, 2), though he could then", -2, twos.rowLeads(21, 2), twos);
        due.granted("rowLeads(12122, 5), the last can't be made", -2, twos.rowLeads(12122, 5), twos);
        due.granted("rowLeads(12121, 5)", 2, twos.rowLeads(12121, 5), twos);
        due.is("rowLeads(11111, 5) to the last cell", 59, inBoots(60, 49, 2).rowLeads(11111, 5));
        due.is("rowLeads(11111, 5) one beyond", -2, inBoots(60, 50, 2).rowLeads(11111, 5));
        due.is("rowLeads(22222, 5) to cell 0", 0, inBoots(60, 45, 9).rowLeads(22222, 5));
        due.is("rowLeads(22222, 5) one below", -2, inBoots(60, 44, 9).rowLeads(22222, 5));
        due.is("he stays", 0, twos.son());
        due.is("gone() stays", 0, twos.gone());
        due.promise(26, "NONE: 1 (no LAND); 2 (n, a digit of no boots, more digits, below 0)");
        wrongRows(true);
    }

    private static void rowLost() {
        due.promise(27, "Folk that are LOST behind it; -2 likewise");
        SevenLeague twos = landed(TWOS);
        int[] folk = {0, 8, 8, 8, 8, 107};
        int row = 0;
        for (int n = 0; n <= 5; n++) {
            due.granted("rowLost(" + row + ", " + n + ")", folk[n], twos.rowLost(row, n), twos);
            row = 10 * row + 1;
        }
        due.granted("rowLost(2, 1)", -2, twos.rowLost(2, 1), twos);
        due.granted("rowLost(21, 2)", -2, twos.rowLost(21, 2), twos);
        due.granted("rowLost(12122, 5)", -2, twos.rowLost(12122, 5), twos);
        due.is("lost() stays", 0, twos.lost());
        SevenLeague most = landed(Lands.MOST);
        due.granted("rowLost(0, 0), what is lost now", 594, most.rowLost(0, 0), most);
        due.promise(27, "NONE: 1 (no LAND); 2");
        wrongRows(false);
    }

    // ---- to come to a cell

    private static void come() {
        due.term("COME to a CELL: the ROW of fewest strides (none where he is) by which the son is there; of like ones the first by "
                + "digits");
        SevenLeague x = landed(BOTH);
        due.is("come(4), where he is", 0, x.come(4));
        due.is("come(9), one of two, one of three", 2, x.come(9));
        due.is("the first by digits: 13, not 31", 1, x.comeAt(9, 0));
        due.is("the first by digits: 13, not 31", 3, x.comeAt(9, 1));
        due.promise(28, "COME: how many strides (0 .. 5); -2 not by so many");
        SevenLeague twos = landed(TWOS);
        for (int k = 0; k < 60; k++) due.granted("come(" + k + ")", k % 2 == 0 && k <= 10 ? k / 2 : -2, twos.come(k), twos);
        SevenLeague nines = inBoots(60, 59, 9);
        for (int k = 0; k < 60; k++) due.granted("come(" + k + ") by nines", (59 - k) % 9 == 0 && k >= 14 ? (59 - k) / 9 : -2, nines.come(k), nines);
        SevenLeague three = landed(Lands.THREE);
        due.granted("come(2), gone", -2, three.come(2), three);
        // He stays where he is, but what is gone differs: 2 is gone, then filled.
        due.is("fill(2)", 2, three.fill(2));
        due.granted("come(2), filled", 1, three.come(2), three);
        three.undo();
        due.granted("come(2), gone again", -2, three.come(2), three);
        // What is gone stays, but he is elsewhere.
        due.is("come(6)", 1, three.come(6));
        due.is("stride(0, 1)", 0, three.stride(0, 1));
        due.granted("come(6) from 0", 2, three.come(6), three);
        due.promise(28, "NONE: 1");
        for (int k : Numbers.outside(0, 59)) due.refused("come(" + k + ")", twos.come(k), twos, 1);
        for (int k : Numbers.outside(0, 7)) due.refused("come(" + k + ")", three.come(k), three, 1);
    }

    private static void comeAt() {
        due.promise(29, "The i-th digit of it. NONE: 1 (i, too; it can't be)");
        SevenLeague twos = landed(TWOS), none = new SevenLeague();
        for (int strides = 0; strides <= 5; strides++) {
            for (int i = 0; i < strides; i++) due.granted("comeAt(" + 2 * strides + ", " + i + ")", 1, twos.comeAt(2 * strides, i), twos);
            for (int i : Numbers.outside(0, strides - 1)) {
                if (i >= 0 && i < strides) continue;
                due.refused("comeAt(" + 2 * strides + ", " + i + ")", twos.comeAt(2 * strides, i), twos, 1);
            }
        }
        for (int i = -3; i <= 6; i++) {
            due.refused("comeAt(12, " + i + "), it can't be", twos.comeAt(12, i), twos, 1);
            due.refused("comeAt(1, " + i + "), it can't be", twos.comeAt(1, i), twos, 1);
            due.refused("comeAt(0, " + i + "), no stride", twos.comeAt(0, i), twos, 1);
            due.refused("comeAt(0, " + i + ") without a land", none.comeAt(0, i), none, 1);
        }
        for (int k : Numbers.outside(0, 59)) due.refused("comeAt(" + k + ", 0)", twos.comeAt(k, 0), twos, 1);
        SevenLeague six = landed("land cells 60 son 0 curate 0 gout 0;boots a 9;boots b 5;boots c 4");
        int[] digits = {1, 1, 1, 1, 5};
        for (int i = 0; i < 5; i++) due.is("comeAt(40, " + i + ")", digits[i], six.comeAt(40, i));
    }

    private static void spare() {
        due.term("SPARE for it: the ROW, of 5 strides at most, by which he is, and behind it fewest folk more are LOST than NOW; of "
                + "like ones that of fewest strides, then the first by digits");
        // From 4 to 6 or behind it he can come into 5 or into 6, not into both, so one of them is passed.
        SevenLeague both = landed(BOTH);
        due.is("spare(6)", 1, both.spare(6));
        due.is("spareRow(6), one stride", 1, both.spareRow(6));
        due.is("spare(7)", 1, both.spare(7));
        due.is("spareRow(7), three strides over one place, not one over both", 231, both.spareRow(7));
        due.promise(30, "SPARE: folk more that are LOST; -2 it can't be");
        SevenLeague twos = landed(TWOS);
        int[] folk = {0, -2, 8, -2, 8, -2, 8, -2, 8, -2, 107, -2, -2};
        for (int k = 0; k < folk.length; k++) due.granted("spare(" + k + ")", folk[k], twos.spare(k), twos);
        twos.stride(0, 0);
        due.granted("spare(0), nothing more", 0, twos.spare(0), twos);
        due.granted("spare(12), five strides from 2", 99, twos.spare(12), twos);
        due.granted("spare(14)", -2, twos.spare(14), twos);
        due.promise(30, "NONE: 1");
        for (int k : Numbers.outside(0, 59)) due.refused("spare(" + k + ")", twos.spare(k), twos, 1);
        SevenLeague three = landed(Lands.THREE);
        for (int k : Numbers.outside(0, 7)) due.refused("spare(" + k + ")", three.spare(k), three, 1);
    }

    private static void spareRow() {
        due.promise(31, "Its ROW as a WHOLE (0 without a stride); -2");
        SevenLeague twos = landed(TWOS);
        int[] rows = {0, -2, 1, -2, 11, -2, 111, -2, 1111, -2, 11111, -2, -2};
        for (int k = 0; k < rows.length; k++) due.granted("spareRow(" + k + ")", rows[k], twos.spareRow(k), twos);
        SevenLeague highest = landed("land cells 60 son 59 curate 0 gout 0;boots a 2;boots b 3;boots c 9");
        due.is("spareRow(14), the highest digits", 66666, highest.spareRow(14));
        String free = "land cells 20 son 4 curate 0 gout 0;boots two 2;boots three 3";
        due.is("spareRow(7), of like ones the fewest strides", 3, landed(free).spareRow(7));
        due.is("spareRow(9), of like ones the first by digits", 13, landed(free).spareRow(9));
        // With folk at 5 he comes into it, down two and up three, and on from there.
        SevenLeague around = landed(free + ";place p at 5 folk 9");
        int[] cells = {5, 7, 9, 11, 14};
        int[] ways = {23, 231, 2311, 2333, 23333};
        for (int i = 0; i < 5; i++) {
            due.is("spare(" + cells[i] + ")", 0, around.spare(cells[i]));
            due.is("spareRow(" + cells[i] + ")", ways[i], around.spareRow(cells[i]));
        }
        // To 15 he would need six strides then; over 5 he needs four.
        due.is("spare(15), six strides don't count", 9, around.spare(15));
        due.is("spareRow(15)", 1333, around.spareRow(15));
        due.promise(31, "NONE: 1");
        for (int k : Numbers.outside(0, 59)) due.refused("spareRow(" + k + ")", twos.spareRow(k), twos, 1);
        SevenLeague three = landed(Lands.THREE);
        for (int k : Numbers.outside(0, 7)) due.refused("spareRow(" + k + ")", three.spareRow(k), three, 1);
    }

    private static void reach() {
        due.promise(32, "CELLS (0 .. 29), as bits, to which he can come by n strides (0 .. 5) or fewer. NONE: 1 (no LAND); 2");
        SevenLeague twos = landed(TWOS), none = new SevenLeague();
        int bits = 0;
        for (int n = 0; n <= 5; n++) {
            bits |= 1 << 2 * n;
            due.granted("reach(" + n + ")", bits, twos.reach(n), twos);
        }
        twos.stride(0, 0);
        due.is("reach(0) behind a stride, 0 being none", 4, twos.reach(0));
        due.is("reach(1) behind a stride", 1 | 4 | 16, twos.reach(1));
        twos.fill(1);
        due.is("reach(1) behind a fill, the son where he was", 1 | 4 | 16, twos.reach(1));
        SevenLeague over = inBoots(60, 21, 2);
        due.is("reach(4), to 29", 0x2AAAA000 & ~((1 << 13) - 1), over.reach(4));
        due.is("reach(5), 31 is no bit", 0x2AAAA800, over.reach(5));
        due.is("reach(0) at 29", 1 << 29, inBoots(60, 29, 2).reach(0));
        due.is("reach(0) at 30", 0, inBoots(60, 30, 2).reach(0));
        due.is("reach(0) at 32", 0, inBoots(60, 32, 2).reach(0));
        due.is("reach(0) at 59", 0, inBoots(60, 59, 2).reach(0));
        due.is("reach(1) at 31", 1 << 29, inBoots(60, 31, 2).reach(1));
        due.granted("reach(5), nowhere", 1, inBoots(8, 0, 8).reach(5), over);
        for (int n : Numbers.outside(0, 5)) {
            due.refused("reach(" + n + ")", twos.reach(n), twos, 2);
            due.refused("reach(" + n + ") without a land", none.reach(n), none, 1);
        }
        due.refused("reach(0) without a land", none.reach(0), none, 1);
    }

    // ---- sums

    private static void sum() {
        due.term("SUM of a way of d CELLS (0 .. 60): the fewest strides, all up, ground and edges no matter, that are as long together");
        for (int length = 2; length <= 9; length++) {
            SevenLeague x = inBoots(8, 0, length);
            for (int d = 0; d <= 60; d++) due.granted("sum(" + d + ") by " + length, d % length == 0 ? d / length : -2, x.sum(d), x);
        }
        due.promise(33, "SUM; -2 there is none. NONE: 1 (no LAND); 2");
        SevenLeague x = landed("land cells 8 son 0 curate 0 gout 0;boots a 9;boots b 8;boots c 5;stride c up");
        due.is("sum(0)", 0, x.sum(0));
        due.is("sum(1)", -2, x.sum(1));
        due.is("sum(4)", -2, x.sum(4));
        due.is("sum(5)", 1, x.sum(5));
        due.is("sum(16), not 9 first", 2, x.sum(16));
        due.is("sum(20), not 9 first", 4, x.sum(20));
        due.is("sum(59)", 7, x.sum(59));
        due.is("sum(60), four of 9 and three of 8", 7, x.sum(60));
        SevenLeague none = new SevenLeague();
        for (int d : Numbers.outside(0, 60)) {
            due.refused("sum(" + d + ")", x.sum(d), x, 2);
            due.refused("sum(" + d + ") without a land", none.sum(d), none, 1);
        }
        for (int d : new int[] {0, 60}) due.refused("sum(" + d + ") without a land", none.sum(d), none, 1);
    }

    private static void over() {
        due.promise(34, "What is left of the way from the son to a CELL (up or down) by the greatest number by which all strides can be "
                + "parted without a rest");
        int[][] boots = {{2, 2, 2, 2}, {9, 9, 9, 9}, {9, 6, 3, 3}, {8, 4, 2, 2}, {4, 6, 8, 2}, {2, 3, 9, 1}, {9, 8, 9, 1}, {6, 9, 9, 3}, {8, 8, 4, 4}};
        for (int[] b : boots) {
            SevenLeague x = landed("land cells 60 son 30 curate 0 gout 0;boots a " + b[0] + ";boots b " + b[1] + ";boots c " + b[2]);
            for (int k = 0; k < 60; k++) due.granted("over(" + k + ")", Math.abs(k - 30) % b[3], x.over(k), x);
        }
        due.promise(34, "NONE: 1");
        SevenLeague x = landed(TWOS), least = landed(Lands.LEAST);
        due.is("over(59)", 1, x.over(59));
        due.is("over(0)", 0, x.over(0));
        for (int k : Numbers.outside(0, 59)) due.refused("over(" + k + ")", x.over(k), x, 1);
        for (int k : Numbers.outside(0, 7)) due.refused("over(" + k + ")", least.over(k), least, 1);
    }

    private static int neverOf(String boots) {
        SevenLeague x = landed("land cells 8 son 0 curate 0 gout 0" + boots);
        int answer = x.never();
        due.is("trouble()", 0, x.trouble());
        return answer;
    }

    private static void never() {
        due.promise(35, "The longest way (0 .. 60) without a SUM; -2 there is none. NONE: 1 (no LAND)");
        // No boots are shorter than 2, so 1 is always without one; -2 can't be.
        due.is("2 and 3", 1, neverOf(";boots a 2;boots b 3"));
        due.is("2", 59, neverOf(";boots a 2"));
        due.is("3", 59, neverOf(";boots a 3"));
        due.is("7", 60, neverOf(";boots a 7"));
        due.is("8", 60, neverOf(";boots a 8"));
        due.is("9", 60, neverOf(";boots a 9"));
        due.is("8 and 9", 55, neverOf(";boots a 8;boots b 9"));
        due.is("7, 8 and 9", 20, neverOf(";boots a 7;boots b 8;boots c 9"));
        due.is("4, 6 and 8", 59, neverOf(";boots a 4;boots b 6;boots c 8"));
        SevenLeague none = new SevenLeague();
        due.refused("never()", none.never(), none, 1);
    }

    // ---- the curate

    private static void tour() {
        due.term("TOUR of n STEPS (0 .. 10) of the curate: the row (up ahead of down; one that would leave the land is none) by which, "
                + "behind it, fewest folk are LOST; of like ones fewest CELLS are GONE; of like ones the first");
        // Two places, both lost, at 2 and 8 from the curate at 5: he can come to one of them by three steps.
        String text = "land cells 12 son 0 curate 5 gout 0;boots b 4;boots c 3;place p at 2 folk 5;place q at 8 folk ";
        String told = ";stride b up;stride c up;stride c up";
        // There are 0, 4, 7, 10, 11; 1 to 3, 5, 6, 8, 9 are gone.
        SevenLeague less = landed(text + "4" + told), more = landed(text + "6" + told), alike = landed(text + "5" + told);
        due.is("fewest folk: down to 2", 2, less.tourAt(3, 3));
        due.is("tour(3)", 4, less.tour(3));
        due.is("fewest folk: up to 8", 8, more.tourAt(3, 3));
        due.is("tour(3)", 5, more.tour(3));
        due.is("of like ones fewest gone: up fills 6 and 8, down only 3 and 2", 8, alike.tourAt(3, 3));
        due.is("tourGone(3)", 5, alike.tourGone(3));
        SevenLeague still = landed("land cells 8 son 0 curate 3 gout 0;boots b 2");
        for (int n = 0; n <= 10; n++) {
            int[] up = {3, 4, 5, 6, 7, 6, 7, 6, 7, 6, 7};
            for (int i = 0; i <= n; i++) due.is("the first: up while he can", up[i], still.tourAt(n, i));
        }
        due.promise(36, "TOUR: folk LOST behind it. NONE: 1 (no LAND); 2");
        SevenLeague wood = landed(Lands.WOOD.replace(";boots", ";place p at 5 folk 99;boots"));
        // 5 is 3 deep: five steps to it, four more.
        for (int n = 0; n <= 10; n++) due.granted("tour(" + n + ")", n >= 9 ? 0 : 99, wood.tour(n), wood);
        due.is("lost() stays", 99, wood.lost());
        wrongTours("tour");
    }

    private static int tourAsked(String call, SevenLeague x, int n) {
        return switch (call) {
            case "tour" -> x.tour(n);
            case "tourGone" -> x.tourGone(n);
            default -> x.tourAt(n, 0);
        };
    }

    private static void wrongTours(String call) {
        SevenLeague x = landed(Lands.MOST), none = new SevenLeague();
        for (int n = 0; n <= 10; n++) {
            due.is(call + " of " + n + " is answered", true, tourAsked(call, x, n) != -1);
            due.is("trouble()", 0, x.trouble());
            due.refused(call + " of " + n + " without a land", tourAsked(call, none, n), none, 1);
        }
        for (int n : Numbers.outside(0, 10)) {
            due.refused(call + " of " + n, tourAsked(call, x, n), x, 2);
            due.refused(call + " of " + n + " without a land", tourAsked(call, none, n), none, 1);
        }
    }

    private static void tourGone() {
        due.promise(37, "CELLS GONE behind it. NONE: 1 (no LAND); 2");
        SevenLeague wood = landed(Lands.WOOD);
        // 1 is there behind 5 steps (1, 0, 1, 0, 1 or 1, 2, 1, 2, 1); 1 and 2 behind 6; 1, 2 and 3 behind 9 at the earliest.
        int[] gone = {8, 8, 8, 8, 8, 7, 6, 6, 6, 6, 6};
        for (int n = 0; n <= 8; n++) due.granted("tourGone(" + n + ")", gone[n], wood.tourGone(n), wood);
        due.is("gone() stays", 8, wood.gone());
        SevenLeague leapt = landed(Lands.LEAPT);
        // Down from 59: 58 to 55, 54, 53 to 49, each 1 deep.
        int[] left = {52, 51, 50, 49, 48, 48, 47, 46, 45, 44, 43};
        for (int n = 0; n <= 10; n++) due.granted("tourGone(" + n + ")", left[n], leapt.tourGone(n), leapt);
        wrongTours("tourGone");
    }

    private static void tourAt() {
        due.promise(38, "Where he is behind i STEPS of it (0 .. n)");
        SevenLeague leapt = landed(Lands.LEAPT);
        for (int n = 6; n <= 10; n++) {
            for (int i = 0; i <= n; i++) due.granted("tourAt(" + n + ", " + i + ")", 59 - i, leapt.tourAt(n, i), leapt);
        }
        due.is("curate() stays", 59, leapt.curate());
        SevenLeague least = landed(Lands.LEAST);
        due.is("tourAt(1, 1) at the edge", 1, least.tourAt(1, 1));
        due.promise(38, "NONE: 1 (i, too); 2");
        for (int n = 0; n <= 10; n++) {
            for (int i : Numbers.outside(0, n)) due.refused("tourAt(" + n + ", " + i + ")", leapt.tourAt(n, i), leapt, 1);
        }
        wrongTours("tourAt");
    }

    private static void steps() {
        due.promise(39, "How many STEPS the curate needs at least that a CELL is there (0 it is; no year going by)");
        SevenLeague wood = landed(Lands.WOOD);
        // Each is 3 deep: the way to it, and four steps more.
        int[] need = {0, 5, 6, 7, 8, 9, 10, 11, 12, 0};
        for (int k = 0; k < 10; k++) due.granted("steps(" + k + ")", need[k], wood.steps(k), wood);
        SevenLeague inIt = landed("land cells 8 son 0 curate 2 gout 0;ground bog 2 2;ground wood 3 3;boots b 4;stride b up");
        int[] from2 = {0, 1, 4, 5, 0, 0, 0, 0};
        for (int k = 0; k < 8; k++) due.granted("steps(" + k + ") from 2, gone too", from2[k], inIt.steps(k), inIt);
        // Standing in it he goes away and comes back for each: heath, bog, wood.
        for (int k = 1; k <= 3; k++) {
            SevenLeague there = landed(Lands.THREE.replace("curate 7", "curate " + k));
            due.granted("steps(" + k + ") from it", 2 * k, there.steps(k), there);
        }
        SevenLeague leapt = landed(Lands.LEAPT);
        due.granted("steps(1), the farthest", 58, leapt.steps(1), leapt);
        due.granted("steps(58), the next", 1, leapt.steps(58), leapt);
        due.granted("steps(59), where he is", 0, leapt.steps(59), leapt);
        due.promise(39, "NONE: 1");
        for (int k : Numbers.outside(0, 59)) due.refused("steps(" + k + ")", leapt.steps(k), leapt, 1);
        for (int k : Numbers.outside(0, 9)) due.refused("steps(" + k + ")", wood.steps(k), wood, 1);
    }
}
