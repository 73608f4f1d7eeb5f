/** The bounds of what is so now and by years, sentence by sentence: term II, promises 1 and 6 to 22. */
public final class NowBoundsTest {
    private static final Due due = new Due();

    public static void main(String[] args) {
        aNewObject();
        calls();
        cell();
        place();
        boots();
        sonAndCurate();
        goneAndLost();
        stretches();
        longest();
        widest();
        between();
        deep();
        nearest();
        goneIn();
        lostIn();
        backIn();
        stillIn();
        strideTerm();
        stepTerm();
        yearTerm();
        due.had(6, 22);
        due.end();
    }

    private static SevenLeague landed(String text) {
        return Tapes.landed(text);
    }

    private static void aNewObject() {
        due.promise(1, "No LAND.");
        SevenLeague x = new SevenLeague();
        for (int what = 0; what <= 10; what++) due.is("size(" + what + ")", 0, x.size(what));
        due.is("trouble()", 0, x.trouble());
        due.is("fault()", 0, x.fault());
        due.is("where()", -1, x.where());
        due.refused("son()", x.son(), x, 1);
        due.refused("cell(0, 0)", x.cell(0, 0), x, 1);
        Tapes.feed(x, "land cells 8");
        due.refused("land with a fault", x.land(12), x, 4);
        due.refused("son() behind it", x.son(), x, 1);
        due.refused("cell(0, 0) behind it", x.cell(0, 0), x, 1);
        due.is("size(0) behind it", 0, x.size(0));
        due.is("another object has its own land", 8, landed(Lands.LEAST).size(0));
        due.refused("son() still", x.son(), x, 1);
    }

    private static void calls() {
        due.term("An object is used for at most 512 calls after it has been made");
        SevenLeague x = landed(Lands.WOOD);
        // The feeds that the text takes, a look at the tape's size ahead of them, and land.
        int calls = (Lands.WOOD.length() + 19) / 20 + 2;
        for (int i = calls; i < 510; i++) x.year();
        due.is("size(7)", 510 - calls, x.size(7));
        due.is("undo(), the 512th call", true, x.undo());
    }

    // ---- now

    private static void cell() {
        due.promise(6, "Of a CELL 0 ground (0 heath, 1 bog, 2 wood), 1 how deep it is GONE (0 it is there)");
        SevenLeague x = landed(Lands.THREE);
        int[] ground = {0, 0, 1, 2, 0, 0, 0, 0};
        int[] depth = {0, 1, 2, 3, 0, 0, 0, 0};
        for (int k = 0; k < 8; k++) {
            due.granted("cell(" + k + ", 0)", ground[k], x.cell(k, 0), x);
            due.granted("cell(" + k + ", 1)", depth[k], x.cell(k, 1), x);
        }
        due.promise(6, "2 the place there (-2 none)");
        x = landed(Lands.MOST);
        for (int p = 0; p < 6; p++) due.granted("place at " + (33 + p), p, x.cell(33 + p, 2), x);
        for (int k : new int[] {0, 32, 39, 59}) due.granted("no place at " + k, -2, x.cell(k, 2), x);
        due.promise(6, "3 1 if the son is there, and 2 if the curate is");
        x = landed(Lands.LEAST);
        due.is("both at 0", 3, x.cell(0, 3));
        x.step(0);
        due.is("the son alone at 0", 1, x.cell(0, 3));
        due.is("the curate alone at 1", 2, x.cell(1, 3));
        due.is("nobody at 2", 0, x.cell(2, 3));
        x = landed(Lands.LEAPT);
        due.is("both at the last one", 3, x.cell(59, 3));
        due.is("nobody ahead of it", 0, x.cell(58, 3));
        due.is("nobody at 0", 0, x.cell(0, 3));
        due.promise(6, "NONE: 1");
        for (String land : new String[] {Lands.LEAST, Lands.MOST}) {
            x = landed(land);
            int cells = x.size(0);
            for (int what = 0; what <= 3; what++) {
                due.is("cell(0, " + what + ") is one", true, x.cell(0, what) != -1);
                due.is("cell(last, " + what + ") is one", true, x.cell(cells - 1, what) != -1);
                for (int k : Numbers.outside(0, cells - 1)) due.refused("cell(" + k + ", " + what + ")", x.cell(k, what), x, 1);
            }
            for (int what : Numbers.outside(0, 3)) due.refused("cell(0, " + what + ")", x.cell(0, what), x, 1);
            due.refused("cell(-1, 4)", x.cell(-1, 4), x, 1);
        }
    }

    private static void place() {
        due.promise(7, "Of a place 0 its CELL, 1 folk, 2 1 if it is LOST, else 0");
        SevenLeague x = landed(Lands.MOST);
        for (int p = 0; p < 6; p++) {
            due.granted("place(" + p + ", 0)", 33 + p, x.place(p, 0), x);
            due.granted("place(" + p + ", 1)", 99, x.place(p, 1), x);
            due.granted("place(" + p + ", 2)", 1, x.place(p, 2), x);
        }
        x.fill(33);
        due.is("place(0, 2) filled", 0, x.place(0, 2));
        due.is("place(1, 2) stays", 1, x.place(1, 2));
        SevenLeague least = landed("land cells 8 son 0 curate 0 gout 0;boots b 2;place p at 7 folk 1");
        due.is("place(0, 0)", 7, least.place(0, 0));
        due.is("place(0, 1)", 1, least.place(0, 1));
        due.is("place(0, 2)", 0, least.place(0, 2));
        due.promise(7, "NONE: 1");
        for (int what = 0; what <= 2; what++) {
            for (int p : Numbers.outside(0, 5)) due.refused("place(" + p + ", " + what + ")", x.place(p, what), x, 1);
            for (int p : Numbers.outside(0, 0)) due.refused("place(" + p + ", " + what + ") of one", least.place(p, what), least, 1);
        }
        for (int what : Numbers.outside(0, 2)) due.refused("place(0, " + what + ")", x.place(0, what), x, 1);
        SevenLeague none = landed(Lands.LEAST);
        due.refused("place(0, 0) of none", none.place(0, 0), none, 1);
    }

    private static void boots() {
        due.promise(8, "How long a stride in boots is");
        SevenLeague x = landed(Lands.MOST), least = landed(Lands.LEAST);
        due.granted("boots(0)", 9, x.boots(0), x);
        due.granted("boots(1)", 2, x.boots(1), x);
        due.granted("boots(2)", 5, x.boots(2), x);
        due.granted("boots(0) of one", 2, least.boots(0), least);
        due.promise(8, "NONE: 1");
        for (int b : Numbers.outside(0, 2)) due.refused("boots(" + b + ")", x.boots(b), x, 1);
        for (int b : Numbers.outside(0, 0)) due.refused("boots(" + b + ") of one", least.boots(b), least, 1);
    }

    private static void sonAndCurate() {
        due.promise(9, "Where the son is. NONE: 1 (no LAND)");
        SevenLeague x = landed(Lands.LEAST), none = new SevenLeague();
        due.granted("son() at 0", 0, x.son(), x);
        due.granted("son() at 59", 59, landed(Lands.LEAPT).son(), x);
        due.refused("son()", none.son(), none, 1);
        due.promise(10, "Where the curate is. NONE: 1 (no LAND)");
        due.granted("curate() at 0", 0, x.curate(), x);
        due.granted("curate() at 59", 59, landed(Lands.MOST).curate(), x);
        due.refused("curate()", none.curate(), none, 1);
    }

    private static void goneAndLost() {
        due.promise(11, "How many CELLS are GONE. NONE: 1 (no LAND)");
        SevenLeague least = landed(Lands.LEAST), none = new SevenLeague();
        due.granted("gone(), none", 0, least.gone(), least);
        least.stride(0, 0);
        due.granted("gone(), one", 1, least.gone(), least);
        due.is("gone(), most", 52, landed(Lands.LEAPT).gone());
        due.refused("gone()", none.gone(), none, 1);
        due.promise(12, "Folk that are LOST. NONE: 1 (no LAND)");
        due.granted("lost(), no places", 0, least.lost(), least);
        SevenLeague x = landed(Lands.MOST);
        due.granted("lost(), all", 594, x.lost(), x);
        for (int p = 0; p < 6; p++) {
            x.fill(33 + p);
            due.is("lost(), " + (5 - p) + " places", 99 * (5 - p), x.lost());
        }
        due.refused("lost()", none.lost(), none, 1);
    }

    // ---- stretches, gaps

    private static void stretches() {
        due.promise(13, "STRETCHES, how many. NONE: 1 (no LAND)");
        SevenLeague x = landed(Lands.LEAST), none = new SevenLeague();
        due.granted("stretches(), nothing gone", 1, x.stretches(), x);
        x.stride(0, 0);
        due.granted("stretches() of 0, of 2 to 7", 2, x.stretches(), x);
        x.stride(0, 0);
        x.stride(0, 0);
        due.is("stretches() of 0, 2, 4, 6 and 7", 4, x.stretches());
        x.fill(1);
        due.is("stretches() of 0 to 2, 4, 6 and 7", 3, x.stretches());
        due.is("stretches() of one cell each", 8, landed(Lands.LEAPT).stretches());
        SevenLeague most = landed("land cells 60 son 1 curate 0 gout 0;boots b 2;stride b up");
        for (int i = 0; i < 28; i++) most.stride(0, 0);
        // There are 0 and 1, 3, 5 .. 59.
        due.is("stretches(), most", 30, most.stretches());
        due.refused("stretches()", none.stretches(), none, 1);
        due.term("STRETCHES: CELLS next to each other that are there, as many as can be; GAPS: that are GONE");
        due.is("stretches() of 0 and of 9", 2, landed(Lands.WOOD).stretches());
        due.is("widest() of 1 to 8", 8, landed(Lands.WOOD).widest());
    }

    private static void longest() {
        due.promise(14, "The first CELL of the longest one, the first such; -2 all are GONE. NONE: 1 (no LAND)");
        SevenLeague x = landed(Lands.LEAST), none = new SevenLeague();
        due.granted("longest(), all of the land", 0, x.longest(), x);
        x.stride(0, 0);
        due.is("longest() to the last cell", 2, x.longest());
        due.is("longest() of 60", 0, landed("land cells 60 son 0 curate 0 gout 0;boots b 2").longest());
        due.is("longest(), eight alike", 0, landed(Lands.LEAPT).longest());
        String five = "land cells 9 son 3 curate 0 gout 0;boots b 2";
        due.is("longest() of 0 to 3, of 5 to 8", 0, landed(five + ";stride b up").longest());
        due.is("longest() of 0 and 1, of 3 to 8", 3, landed(five + ";stride b down").longest());
        due.is("longest() of 0 to 4, of 6 to 8", 0, landed("land cells 9 son 6 curate 0 gout 0;boots b 2;stride b down").longest());
        due.is("longest() of 0 to 58 but for 57", 0, landed("land cells 60 son 58 curate 0 gout 0;boots b 2;stride b down").longest());
        due.is("longest() behind 1", 2, landed("land cells 60 son 0 curate 0 gout 0;boots b 2;stride b up").longest());
        due.refused("longest()", none.longest(), none, 1);
    }

    private static void widest() {
        due.promise(15, "How many CELLS the longest GAP has (0 without one). NONE: 1 (no LAND)");
        SevenLeague x = landed(Lands.LEAST), none = new SevenLeague();
        due.granted("widest(), nothing gone", 0, x.widest(), x);
        x.stride(0, 0);
        due.granted("widest() of one", 1, x.widest(), x);
        due.is("widest(), most", 8, landed(Lands.WOOD).widest());
        due.is("widest(), up to the last cell but one", 8, landed("land cells 60 son 50 curate 0 gout 0;boots b 9;stride b up").widest());
        SevenLeague parted = landed(Lands.WOOD);
        parted.fill(4);
        due.is("widest() of three and four", 4, parted.widest());
        parted.fill(8);
        due.is("widest() of three and three", 3, parted.widest());
        due.refused("widest()", none.widest(), none, 1);
    }

    private static void between() {
        due.promise(16, "How many CELLS that are GONE lie from one to another one, whichever is the lesser (both, too)");
        SevenLeague x = landed(Lands.THREE), far = landed(Lands.LEAPT);
        int[] goneBelow = {0, 0, 1, 2, 3, 3, 3, 3, 3};
        for (int k = 0; k < 8; k++) {
            for (int to = 0; to < 8; to++) {
                int want = goneBelow[Math.max(k, to) + 1] - goneBelow[Math.min(k, to)];
                due.granted("between(" + k + ", " + to + ")", want, x.between(k, to), x);
            }
        }
        due.is("between(0, 59)", 52, far.between(0, 59));
        due.is("between(59, 0)", 52, far.between(59, 0));
        due.is("between(59, 59)", 0, far.between(59, 59));
        due.is("between(58, 58)", 1, far.between(58, 58));
        due.promise(16, "NONE: 1");
        for (int k : Numbers.outside(0, 7)) {
            due.refused("between(" + k + ", 0)", x.between(k, 0), x, 1);
            due.refused("between(0, " + k + ")", x.between(0, k), x, 1);
            due.refused("between(" + k + ", " + k + ")", x.between(k, k), x, 1);
        }
        for (int k : Numbers.outside(0, 59)) {
            due.refused("between(59, " + k + ")", far.between(59, k), far, 1);
            due.refused("between(" + k + ", 59)", far.between(k, 59), far, 1);
        }
    }

    private static void deep() {
        due.promise(17, "How deep all those are together, likewise");
        SevenLeague x = landed(Lands.THREE), far = landed(Lands.LEAPT);
        int[] deepBelow = {0, 0, 1, 3, 6, 6, 6, 6, 6};
        for (int k = 0; k < 8; k++) {
            for (int to = 0; to < 8; to++) {
                int want = deepBelow[Math.max(k, to) + 1] - deepBelow[Math.min(k, to)];
                due.granted("deep(" + k + ", " + to + ")", want, x.deep(k, to), x);
            }
        }
        due.is("deep(0, 59)", 52, far.deep(0, 59));
        SevenLeague wood = landed(Lands.LEAPT.replace(";boots nine", ";ground wood 0 59;boots nine"));
        due.is("deep(59, 0), most", 156, wood.deep(59, 0));
        due.is("deep(58, 59)", 3, wood.deep(58, 59));
        due.promise(17, "NONE: 1");
        for (int k : Numbers.outside(0, 7)) {
            due.refused("deep(" + k + ", 0)", x.deep(k, 0), x, 1);
            due.refused("deep(0, " + k + ")", x.deep(0, k), x, 1);
            due.refused("deep(" + k + ", " + k + ")", x.deep(k, k), x, 1);
        }
        for (int k : Numbers.outside(0, 59)) {
            due.refused("deep(59, " + k + ")", far.deep(59, k), far, 1);
            due.refused("deep(" + k + ", 59)", far.deep(k, 59), far, 1);
        }
    }

    private static int nearestOf(String places) {
        SevenLeague x = landed("land cells 30 son 2 curate 0 gout 0;boots two 2;boots five 5;boots nine 9" + places
                + ";stride five up;stride nine up;stride five up;stride two up");
        // Gone are 3 to 6, 8 to 15, 17 to 20, 22; there are 0 to 2, 7, 16, 21, 23 to 29.
        int answer = x.nearest();
        due.is("trouble()", 0, x.trouble());
        return answer;
    }

    private static String places(int... cells) {
        StringBuilder lines = new StringBuilder();
        for (int i = 0; i < cells.length; i++) lines.append(";place p").append((char) ('a' + i)).append(" at ").append(cells[i]).append(" folk 1");
        return lines.toString();
    }

    private static void nearest() {
        due.promise(18, "The two places, neither LOST (10 times the lesser and the other one), in unlike STRETCHES between which "
                + "fewest CELLS are GONE, the first two; -2 there are none");
        due.is("no place", -2, nearestOf(""));
        due.is("one place", -2, nearestOf(places(2)));
        due.is("two in one stretch", -2, nearestOf(places(0, 2)));
        due.is("all in one stretch", -2, nearestOf(places(23, 24, 25, 26, 28, 29)));
        due.is("two parted by four", 1, nearestOf(places(2, 7)));
        due.is("told the other way about", 1, nearestOf(places(7, 2)));
        due.is("one lost", -2, nearestOf(places(2, 3)));
        due.is("the other one lost", -2, nearestOf(places(3, 2)));
        due.is("both lost", -2, nearestOf(places(3, 8)));
        due.is("lost ones don't count", 13, nearestOf(places(3, 0, 8, 29)));
        due.is("parted by one", 34, nearestOf(places(2, 7, 16, 21, 23)));
        due.is("the last two", 45, nearestOf(places(0, 1, 2, 7, 21, 29)));
        due.is("all that is gone on the way counts", 12, nearestOf(places(7, 16, 29)));
        due.is("four and four: the first two", 1, nearestOf(places(2, 7, 16, 21)));
        due.is("four and four: the lesser one's number is first", 2, nearestOf(places(21, 2, 16, 7)));
        due.is("alike: the lesser other one", 1, nearestOf(places(7, 1, 2, 0)));
        due.promise(18, "NONE: 1 (no LAND)");
        SevenLeague none = new SevenLeague();
        due.refused("nearest()", none.nearest(), none, 1);
    }

    // ---- years

    private static void goneIn() {
        due.promise(19, "How many CELLS are GONE behind n YEARS (0 .. 60). NONE: 1 (no LAND); 2");
        SevenLeague x = landed(Lands.WOOD), none = new SevenLeague();
        for (int n = 0; n <= 60; n++) due.granted("goneIn(" + n + ")", n >= 12 ? 0 : 8 - n / 3 * 2, x.goneIn(n), x);
        due.is("gone() stays", 8, x.gone());
        for (int n : Numbers.outside(0, 60)) {
            due.refused("goneIn(" + n + ")", x.goneIn(n), x, 2);
            due.refused("goneIn(" + n + ") without a land", none.goneIn(n), none, 1);
        }
        for (int n : new int[] {0, 60}) due.refused("goneIn(" + n + ") without a land", none.goneIn(n), none, 1);
    }

    private static void lostIn() {
        due.promise(20, "Folk that are LOST then. NONE: 1 (no LAND); 2");
        SevenLeague x = landed(Lands.MOST), none = new SevenLeague();
        // 33 (heath) and 34 come back behind 1 and 2 years; 40, 39, 38 behind 1, 2, 3; then 37 (wood) behind 6; 36 (wood) behind 9; 35 is bog.
        int[] back = {1, 2, 99, 9, 6, 3};
        for (int n = 0; n <= 60; n++) {
            int folk = 0;
            for (int years : back) folk += n < years ? 99 : 0;
            due.granted("lostIn(" + n + ")", folk, x.lostIn(n), x);
        }
        due.is("lost() stays", 594, x.lost());
        for (int n : Numbers.outside(0, 60)) {
            due.refused("lostIn(" + n + ")", x.lostIn(n), x, 2);
            due.refused("lostIn(" + n + ") without a land", none.lostIn(n), none, 1);
        }
        for (int n : new int[] {0, 60}) due.refused("lostIn(" + n + ") without a land", none.lostIn(n), none, 1);
    }

    private static void backIn() {
        due.promise(21, "Behind how many YEARS (0 .. 60) a CELL is there; -2");
        SevenLeague x = landed(Lands.WOOD);
        int[] years = {0, 3, 6, 9, 12, 12, 9, 6, 3, 0};
        for (int k = 0; k < 10; k++) due.granted("backIn(" + k + ")", years[k], x.backIn(k), x);
        SevenLeague three = landed(Lands.THREE);
        int[] mixed = {0, 1, -2, 3, 0, 0, 0, 0};
        for (int k = 0; k < 8; k++) due.granted("backIn(" + k + ") by a bog", mixed[k], three.backIn(k), three);
        SevenLeague shut = landed("land cells 8 son 0 curate 0 gout 0;ground bog 1 1;ground bog 4 4;boots b 5;stride b up");
        for (int k = 1; k <= 4; k++) due.granted("backIn(" + k + ") between bogs", -2, shut.backIn(k), shut);
        due.is("gone() stays", 4, shut.gone());
        due.promise(21, "NONE: 1");
        for (int k : Numbers.outside(0, 9)) due.refused("backIn(" + k + ")", x.backIn(k), x, 1);
        SevenLeague far = landed(Lands.LEAPT);
        due.is("backIn(0)", 0, far.backIn(0));
        due.is("backIn(59)", 0, far.backIn(59));
        due.is("backIn(58)", 1, far.backIn(58));
        for (int k : Numbers.outside(0, 59)) due.refused("backIn(" + k + ") of 60", far.backIn(k), far, 1);
    }

    private static void stillIn() {
        due.promise(22, "Behind how many YEARS (0 .. 60) no CELL is less deep by one YEAR more, first; -2. NONE: 1 (no LAND)");
        SevenLeague x = landed(Lands.WOOD), least = landed(Lands.LEAST), none = new SevenLeague();
        due.granted("stillIn(), nothing gone", 0, least.stillIn(), least);
        due.granted("stillIn(), most", 12, x.stillIn(), x);
        for (int left = 11; left >= 0; left--) {
            x.year();
            due.is("stillIn()", left, x.stillIn());
        }
        x.year();
        due.is("stillIn() behind one year more", 0, x.stillIn());
        least.stride(0, 0);
        due.is("stillIn() of one cell", 1, least.stillIn());
        SevenLeague bog = landed("land cells 8 son 0 curate 0 gout 0;ground bog 0 7;boots b 7;stride b up");
        due.granted("stillIn(), bog alone", 0, bog.stillIn(), bog);
        due.is("stillIn() by a bog", 3, landed(Lands.THREE).stillIn());
        due.refused("stillIn()", none.stillIn(), none, 1);
    }

    // ---- term II

    private static void strideTerm() {
        due.term("II. Each CELL is there, or GONE. A STRIDE in boots, up or down: the son comes to the CELL so many on, "
                + "if there is one that is there (else he can't); all CELLS between, that are there, come to be GONE: "
                + "for heath 1 deep, for bog 2, for wood 3");
        for (int length = 2; length <= 9; length++) {
            String text = "land cells 60 son 20 curate 0 gout 0;boots b " + length;
            for (String way : new String[] {"up", "down"}) {
                SevenLeague x = landed(text + ";stride b " + way);
                int to = way.equals("up") ? 20 + length : 20 - length;
                due.is("son", to, x.son());
                due.is("gone", length - 1, x.gone());
                due.is("gone between", length - 1, x.between(Math.min(20, to) + 1, Math.max(20, to) - 1));
                due.is("where he was is there", 0, x.cell(20, 1));
                due.is("where he is is there", 0, x.cell(to, 1));
            }
        }
        SevenLeague x = landed(Lands.THREE);
        x.step(1);
        due.refused("stride onto what is gone", x.stride(1, 1), x, 5);
        due.is("he stays", 4, x.son());
        x.year();
        // 3 is 2 deep now, 1 is there; passed again, 3 stays as deep as it is.
        x.stride(0, 1);
        due.is("what is gone already stays as deep", 2, x.cell(3, 1));
        due.is("what was there is as deep as its ground", 1, x.cell(1, 1));
        due.is("bog", 2, x.cell(2, 1));
        SevenLeague act = landed(Lands.THREE.replace(";stride b up", ""));
        act.stride(0, 0);
        for (int k = 0; k <= 4; k++) due.is("by an act as by a stride told, cell " + k, k % 4, act.cell(k, 1));
        due.term("A place is LOST while its CELL is GONE, and its folk are");
        SevenLeague lost = landed("land cells 8 son 0 curate 0 gout 0;ground wood 1 1;boots b 2;place p at 1 folk 7;stride b up");
        int[] folk = {7, 7, 0};
        for (int want : folk) {
            lost.year();
            due.is("lost()", want, lost.lost());
            due.is("place(0, 2)", want / 7, lost.place(0, 2));
        }
    }

    private static void stepTerm() {
        due.term("A STEP of the curate: to the next CELL, up or down (GONE or not): if it is GONE it is 1 less deep; 0 deep it is "
                + "there. (Who stands in a CELL doesn't keep it.)");
        SevenLeague x = landed("land cells 8 son 0 curate 2 gout 0;ground bog 2 2;ground wood 3 3;boots b 4;stride b up");
        due.is("the curate's cell goes too", 2, x.cell(2, 1));
        due.is("he stays in it", 2, x.curate());
        int[] ways = {0, 1, 0, 1, 0, 1, 0};
        int[] deepAt3 = {2, 2, 1, 1, 0, 0, 0};
        int[] deepAt2 = {2, 1, 1, 0, 0, 0, 0};
        for (int i = 0; i < ways.length; i++) {
            due.is("step", ways[i] == 0 ? 3 : 2, x.step(ways[i]));
            due.is("cell 3 behind step " + i, deepAt3[i], x.cell(3, 1));
            due.is("cell 2 behind step " + i, deepAt2[i], x.cell(2, 1));
        }
        due.is("gone(), 1 alone", 1, x.gone());
    }

    private static void yearTerm() {
        due.term("A YEAR: each CELL that is GONE and has one next to it that is there, ahead of that YEAR, is 1 less deep, but for bog");
        SevenLeague x = landed("land cells 60 son 50 curate 0 gout 0;boots b 9;stride b up");
        int[] gone = {8, 6, 4, 2, 0, 0};
        for (int n = 0; n < gone.length; n++) {
            due.is("gone() behind " + n + " years", gone[n], x.gone());
            due.is("goneIn(0)", gone[n], x.goneIn(0));
            due.is("year()", n < 4 ? 2 : 0, x.year());
        }
        SevenLeague one = landed("land cells 8 son 0 curate 0 gout 0;ground wood 1 1;boots b 2;stride b up");
        // Both cells next to it are there, and still it is one less deep, not two.
        for (int depth = 2; depth >= 0; depth--) {
            one.year();
            due.is("cell(1, 1)", depth, one.cell(1, 1));
        }
        SevenLeague bog = landed("land cells 8 son 0 curate 0 gout 0;ground bog 1 1;boots b 2;stride b up");
        bog.year();
        due.is("bog", 2, bog.cell(1, 1));
        bog.step(0);
        bog.year();
        due.is("bog, 1 deep", 1, bog.cell(1, 1));
        due.term("At first no CELL is GONE; then the strides told are made. NOW is behind all that was done");
        due.is("no stride told", 0, landed(Lands.LEAST).gone());
        SevenLeague told = landed(Lands.LEAST + ";stride b up");
        due.is("a stride told", 1, told.gone());
        told.stride(0, 0);
        due.is("gone() behind an act", 2, told.gone());
        due.is("leads(0, 0) behind an act", 6, told.leads(0, 0));
        told.undo();
        due.is("leads(0, 0) behind undoing", 4, told.leads(0, 0));
    }
}
