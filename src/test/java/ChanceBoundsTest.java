/** The bounds of unsure strides, of son and county, of gout, sentence by sentence: term III, promises 40 to 52. */
public final class ChanceBoundsTest {
    private static final Due due = new Due();
    private static final String TWO = "land cells 20 son 10 curate 0 gout 0;boots a 3;boots b 4;stride a up;stride b up";
    /** Five strides of two, four of which are unsure, far from all edges: each set can be made. */
    private static final String FOUR = "land cells 60 son 30 curate 0 gout 0;boots a 2;stride a up;stride a up;stride a up;"
            + "stride a up;stride a up;unsure 5;unsure 4;unsure 3;unsure 2";

    public static void main(String[] args) {
        fits();
        fitAt();
        couldAndSurely();
        ask();
        askLeaves();
        judge();
        goes();
        rests();
        rest();
        odds();
        oddsRefused();
        mean();
        drawn();
        drawnRefused();
        due.had(40, 52);
        due.end();
    }

    private static SevenLeague landed(String text) {
        return Tapes.landed(text);
    }

    // ---- unsure strides

    private static void fits() {
        due.term("FITS: sets of unsure strides that were the other way, by which all strides told can be made and each CELL seen is so: "
                + "all such");
        SevenLeague edge = landed("land cells 20 son 2 curate 0 gout 0;boots a 3;stride a up;unsure 1");
        due.granted("fits(), the other way leads below 0", 1, edge.fits(), edge);
        due.is("fits(), the other way leads to 0", 2, landed("land cells 20 son 3 curate 0 gout 0;boots a 3;stride a up;unsure 1").fits());
        due.is("fits(), the other way leads to the last cell", 2, landed("land cells 20 son 16 curate 0 gout 0;boots a 3;stride a down;unsure 1").fits());
        due.is("fits(), the other way leads beyond it", 1, landed("land cells 20 son 17 curate 0 gout 0;boots a 3;stride a down;unsure 1").fits());
        due.is("fits(), a stride that isn't unsure leads onto what is gone then", 1,
                landed("land cells 20 son 10 curate 0 gout 0;boots a 4;boots b 2;stride a up;stride b up;unsure 1").fits());
        due.is("fits(), a cell seen at the edge", 1, landed(TWO + ";unsure 1;unsure 2;seen 10 there;seen 17 there;seen 16 gone").fits());
        due.promise(40, "FITS: how many. NONE: 1 (no LAND)");
        SevenLeague none = new SevenLeague(), two = landed(TWO);
        due.granted("fits(), no unsure stride, nothing seen", 1, two.fits(), two);
        due.is("fits() without a stride", 1, landed(Lands.LEAST).fits());
        due.is("fits(), no unsure stride, seen otherwise", 0, landed(TWO + ";seen 11 there").fits());
        due.is("fits(), none", 0, landed(TWO + ";unsure 1;unsure 2;seen 0 gone").fits());
        due.is("fits(), one unsure stride", 2, landed(TWO + ";unsure 2").fits());
        due.is("fits(), two of them", 4, landed(TWO + ";unsure 1;unsure 2").fits());
        due.is("fits(), most", 16, landed(FOUR).fits());
        due.refused("fits()", none.fits(), none, 1);
    }

    private static void fitAt() {
        due.promise(41, "The i-th, by bits of unsure strides as told. NONE: 1 (i, too)");
        SevenLeague four = landed(FOUR), none = new SevenLeague(), empty = landed(TWO + ";unsure 1;seen 0 gone");
        for (int i = 0; i < 16; i++) due.granted("fitAt(" + i + ")", i, four.fitAt(i), four);
        for (int i : Numbers.outside(0, 15)) due.refused("fitAt(" + i + ")", four.fitAt(i), four, 1);
        for (int i = -2; i <= 2; i++) {
            due.refused("fitAt(" + i + "), no fits", empty.fitAt(i), empty, 1);
            due.refused("fitAt(" + i + ") without a land", none.fitAt(i), none, 1);
        }
        SevenLeague one = landed(TWO);
        due.granted("fitAt(0), the empty set", 0, one.fitAt(0), one);
        due.refused("fitAt(1)", one.fitAt(1), one, 1);
        // 39 is passed only if all five strides go up.
        SevenLeague last = landed(FOUR + ";seen 39 gone");
        due.is("fits(), all as told alone", 1, last.fits());
        due.is("fitAt(0)", 0, last.fitAt(0));
        // 37 is passed if the first four go up; the fifth, which is unsure first, is bit 0.
        SevenLeague first = landed(FOUR + ";seen 37 gone;seen 39 there");
        due.is("fits(), the last stride the other way", 1, first.fits());
        due.is("fitAt(0), told first: the lowest bit", 1, first.fitAt(0));
    }

    private static void couldAndSurely() {
        due.promise(42, "Unsure strides in some, as bits. NONE: 1 (no LAND)");
        SevenLeague none = new SevenLeague(), four = landed(FOUR), empty = landed(TWO + ";unsure 1;unsure 2;seen 0 gone");
        due.granted("could(), all", 15, four.could(), four);
        due.granted("could(), no fits", 0, empty.could(), empty);
        due.is("could(), no unsure stride", 0, landed(TWO).could());
        due.is("could(), the second alone", 2, landed(TWO + ";unsure 1;unsure 2;seen 11 gone").could());
        due.is("could(), either of two", 3, landed(TWO + ";unsure 1;unsure 2;seen 10 gone").could());
        due.is("could(), all four in the only one", 15, landed(FOUR + ";seen 25 gone").could());
        due.refused("could()", none.could(), none, 1);
        due.promise(43, "Unsure strides in all (0 without a set), as bits. NONE: 1 (no LAND)");
        due.granted("surely(), none", 0, four.surely(), four);
        due.granted("surely(), no fits", 0, empty.surely(), empty);
        due.is("surely(), no unsure stride", 0, landed(TWO).surely());
        due.is("surely(), the first", 1, landed(TWO + ";unsure 1;unsure 2;seen 11 there").surely());
        due.is("surely(), both", 3, landed(TWO + ";unsure 1;unsure 2;seen 4 gone").surely());
        due.is("surely(), either of two", 0, landed(TWO + ";unsure 1;unsure 2;seen 10 gone").surely());
        // Down by all four behind one up: 30, 32, 30, 28, 26, 24.
        due.is("surely(), all four", 15, landed(FOUR + ";seen 25 gone").surely());
        due.refused("surely()", none.surely(), none, 1);
    }

    private static void ask() {
        due.term("ASK: the unsure stride by which, it being told, at most fewest FITS are left, the first such");
        due.is("the first of like ones", 0, landed(FOUR).ask());
        due.is("the second, which leaves fewer", 1, landed(TWO + ";unsure 1;unsure 2;seen 11 gone").ask());
        due.is("told the other way about", 0, landed(TWO + ";unsure 2;unsure 1;seen 11 gone").ask());
        due.promise(44, "ASK; -2 no FITS, no unsure stride. NONE: 1 (no LAND)");
        SevenLeague none = new SevenLeague(), empty = landed(TWO + ";unsure 1;unsure 2;seen 0 gone"), sure = landed(TWO);
        due.granted("ask(), no fits", -2, empty.ask(), empty);
        due.granted("ask(), no unsure stride", -2, sure.ask(), sure);
        due.is("ask(), neither", -2, landed(TWO + ";seen 0 gone").ask());
        due.is("ask(), one fit alone", 0, landed(TWO + ";unsure 1;unsure 2;seen 4 gone").ask());
        due.is("ask(), one unsure stride", 0, landed(TWO + ";unsure 2").ask());
        // 10 is passed by the third one alone, behind two that went up; the fourth may have gone either way.
        due.is("ask(), the fourth", 3, landed("land cells 20 son 2 curate 0 gout 0;boots a 3;stride a up;stride a up;stride a up;"
                + "stride a up;unsure 1;unsure 2;unsure 3;unsure 4;seen 10 gone").ask());
        due.refused("ask()", none.ask(), none, 1);
    }

    private static void askLeaves() {
        due.promise(45, "How many are left at most then; -2 likewise. NONE: 1 (no LAND)");
        SevenLeague none = new SevenLeague(), empty = landed(TWO + ";unsure 1;unsure 2;seen 0 gone"), sure = landed(TWO);
        due.granted("askLeaves(), no fits", -2, empty.askLeaves(), empty);
        due.granted("askLeaves(), no unsure stride", -2, sure.askLeaves(), sure);
        due.is("askLeaves(), 16 fits", 8, landed(FOUR).askLeaves());
        due.is("askLeaves(), one fit alone", 1, landed(TWO + ";unsure 1;unsure 2;seen 4 gone").askLeaves());
        due.is("askLeaves(), two fits", 1, landed(TWO + ";unsure 2").askLeaves());
        due.is("askLeaves(), three fits: the most of two and one", 2, landed(TWO + ";unsure 1;unsure 2;seen 16 there").askLeaves());
        due.refused("askLeaves()", none.askLeaves(), none, 1);
    }

    private static void judge() {
        due.promise(46, "The first seen, as told, that isn't so behind strides as told; -2. NONE: 1 (no LAND)");
        SevenLeague none = new SevenLeague(), two = landed(TWO);
        due.granted("judge(), nothing seen", -2, two.judge(), two);
        // Gone are 11, 12, 14, 15, 16.
        String six = ";seen 10 there;seen 11 gone;seen 13 there;seen 14 gone;seen 16 gone;seen 17 there";
        due.is("judge(), all six so", -2, landed(TWO + six).judge());
        String[] lines = six.substring(1).split(";");
        for (int i = 0; i < 6; i++) {
            String line = lines[i].endsWith("gone") ? lines[i].replace("gone", "there") : lines[i].replace("there", "gone");
            due.is("judge(), '" + line + "'", i, landed(TWO + six.replace(lines[i], line)).judge());
        }
        SevenLeague unlike = landed(TWO + ";unsure 1;seen 12 gone;seen 11 there;seen 0 gone");
        due.granted("judge(), two not so: the first, though it was unsure", 1, unlike.judge(), unlike);
        unlike.fill(11);
        due.is("judge() behind an act", 1, unlike.judge());
        due.refused("judge()", none.judge(), none, 1);
    }

    // ---- son and county

    private static void goes() {
        due.term("SON and COUNTY each stay or go: both stay: 1 each; both go: 0 less mud each; who goes alone has 3, the other one -1");
        due.promise(47, "What the son (or ofCounty, the county) has if each goes or stays, and mud is so much (0 .. 9). -100: 1 (no "
                + "LAND); 2");
        SevenLeague x = landed(Lands.LEAST), none = new SevenLeague();
        for (int mud = 0; mud <= 9; mud++) {
            for (int of = 0; of < 2; of++) {
                due.granted("both stay", 1, x.goes(mud, false, false, of == 1), x);
                due.granted("both go", -mud, x.goes(mud, true, true, of == 1), x);
                due.granted("the son alone", of == 0 ? 3 : -1, x.goes(mud, true, false, of == 1), x);
                due.granted("the county alone", of == 0 ? -1 : 3, x.goes(mud, false, true, of == 1), x);
                due.refused("goes without a land", -100, none.goes(mud, true, false, of == 1), none, 1);
            }
        }
        for (int mud : Numbers.outside(0, 9)) {
            for (int who = 0; who < 8; who++) {
                boolean son = (who & 1) == 1, county = (who & 2) == 2, of = (who & 4) == 4;
                due.refused("goes(" + mud + ", ..)", -100, x.goes(mud, son, county, of), x, 2);
                due.refused("goes(" + mud + ", ..) without a land", -100, none.goes(mud, son, county, of), none, 1);
            }
        }
    }

    private static void rests() {
        due.term("REST: a pair by which neither could have more alone");
        due.promise(48, "How many RESTS. NONE: 1 (no LAND); 2");
        SevenLeague x = landed(Lands.LEAST), none = new SevenLeague();
        // Without mud both go; by 1 who stays alone has -1 either way, which isn't more; above it one alone goes.
        for (int mud = 0; mud <= 9; mud++) {
            due.granted("rests(" + mud + ")", mud == 0 ? 1 : mud == 1 ? 3 : 2, x.rests(mud), x);
            due.refused("rests(" + mud + ") without a land", none.rests(mud), none, 1);
        }
        for (int mud : Numbers.outside(0, 9)) {
            due.refused("rests(" + mud + ")", x.rests(mud), x, 2);
            due.refused("rests(" + mud + ") without a land", none.rests(mud), none, 1);
        }
    }

    private static void rest() {
        due.promise(49, "The first (staying ahead, the son's first): 10 if the son goes, and 1 if the county does; -2. NONE: likewise");
        SevenLeague x = landed(Lands.LEAST), none = new SevenLeague();
        for (int mud = 0; mud <= 9; mud++) {
            due.granted("rest(" + mud + ")", mud == 0 ? 11 : 1, x.rest(mud), x);
            due.refused("rest(" + mud + ") without a land", none.rest(mud), none, 1);
        }
        for (int mud : Numbers.outside(0, 9)) {
            due.refused("rest(" + mud + ")", x.rest(mud), x, 2);
            due.refused("rest(" + mud + ") without a land", none.rest(mud), none, 1);
        }
    }

    // ---- gout

    private static long common(long a, long b) {
        return b == 0 ? a : common(b, a % b);
    }

    private static void oddsAre(SevenLeague x, int k, int row, int n, long upper, long lower) {
        due.granted("odds(" + k + ", " + row + ", " + n + ", false)", upper, x.odds(k, row, n, false), x);
        due.granted("odds(" + k + ", " + row + ", " + n + ", true)", lower, x.odds(k, row, n, true), x);
    }

    private static SevenLeague gouty(int gout) {
        return landed("land cells 60 son 0 curate 0 gout " + gout + ";boots nine 9;boots two 2;place pa at 1 folk 99;place pb at 2 folk 99;"
                + "place pc at 3 folk 99;place pd at 4 folk 99;place pe at 5 folk 99;place pf at 6 folk 99");
    }

    private static void odds() {
        due.promise(50, "How likely he is in a CELL behind a ROW (one, too, that can't be made as it is) with GOUT, the upper WHOLE or "
                + "the lower, in lowest terms (0 by 1)");
        for (int gout = 0; gout <= 100; gout++) {
            SevenLeague x = gouty(gout);
            long part = common(100 - gout, 100);
            oddsAre(x, 9, 1, 1, (100 - gout) / part, gout == 100 ? 1 : 100 / part);
            part = common(gout, 100);
            oddsAre(x, 0, 1, 1, gout / part, gout == 0 ? 1 : 100 / part);
        }
        oddsAre(gouty(0), 45, 11111, 5, 1, 1);
        oddsAre(gouty(0), 36, 11111, 5, 0, 1);
        oddsAre(gouty(100), 0, 11111, 5, 1, 1);
        oddsAre(gouty(100), 9, 11111, 5, 0, 1);
        oddsAre(gouty(99), 45, 11111, 5, 1, 10000000000L);
        oddsAre(gouty(1), 0, 11111, 5, 1, 10000000000L);
        oddsAre(gouty(1), 45, 11111, 5, 9509900499L, 10000000000L);
        oddsAre(gouty(50), 59, 11111, 5, 0, 1);
        oddsAre(gouty(50), 0, 0, 0, 1, 1);
        oddsAre(gouty(50), 1, 0, 0, 0, 1);
        oddsAre(gouty(50), 59, 0, 0, 0, 1);
        due.term("GOUT by chance: each stride of a ROW, as likely as told, isn't made (he goes on with the next one; one he can't make "
                + "isn't, either)");
        // Down from 0 can't be made, with gout or without; he goes on with the next one.
        oddsAre(gouty(30), 0, 2, 1, 1, 1);
        oddsAre(gouty(30), 0, 22222, 5, 1, 1);
        oddsAre(gouty(30), 9, 21, 2, 7, 10);
        // Up by nine, down by two: onto what is gone, so he stays at 9 if he has gone there.
        oddsAre(gouty(30), 9, 14, 2, 7, 10);
        oddsAre(gouty(30), 7, 14, 2, 0, 1);
        SevenLeague edge = landed("land cells 10 son 9 curate 0 gout 50;boots nine 9");
        oddsAre(edge, 0, 2, 1, 1, 2);
        oddsAre(edge, 9, 1, 1, 1, 1);
        due.is("he stays", 9, edge.son());
        due.is("gone() stays", 0, edge.gone());
    }

    private static void oddsRefused() {
        due.promise(50, "-1: 1; 2");
        SevenLeague x = gouty(50), none = new SevenLeague(), least = landed(Lands.LEAST);
        for (boolean lower : new boolean[] {false, true}) {
            for (int k : Numbers.outside(0, 59)) {
                due.refused("odds(" + k + ", 1, 1)", x.odds(k, 1, 1, lower), x, 1);
                due.refused("odds(" + k + ", 5, 1)", x.odds(k, 5, 1, lower), x, 1);
            }
            for (int k : Numbers.outside(0, 7)) due.refused("odds(" + k + ", 1, 1)", least.odds(k, 1, 1, lower), least, 1);
            for (int n : Numbers.outside(0, 5)) due.refused("odds(0, 1, " + n + ")", x.odds(0, 1, n, lower), x, 2);
            for (int row : wrongRows()) {
                due.refused("odds(0, " + row + ", 2)", x.odds(0, row, 2, lower), x, 2);
                due.refused("odds(0, " + row + ", 2) without a land", none.odds(0, row, 2, lower), none, 1);
            }
            due.refused("odds(0, 1, 0)", x.odds(0, 1, 0, lower), x, 2);
            due.refused("odds(0, 0, 0) without a land", none.odds(0, 0, 0, lower), none, 1);
        }
    }

    /** No rows of two strides in two pairs of boots. */
    private static int[] wrongRows() {
        return new int[] {0, 1, 4, 5, 10, 15, 51, 40, 50, 111, 100, 1011, -1, -11, 1111111111, Integer.MAX_VALUE, Integer.MIN_VALUE};
    }

    private static void meanIs(SevenLeague x, int row, int n, long upper, long lower) {
        due.granted("mean(" + row + ", " + n + ", false)", upper, x.mean(row, n, false), x);
        due.granted("mean(" + row + ", " + n + ", true)", lower, x.mean(row, n, true), x);
    }

    private static void mean() {
        due.promise(51, "The mean of folk LOST then, likewise. -1: 1 (no LAND); 2");
        for (int gout = 0; gout <= 100; gout++) {
            long folk = 594L * (100 - gout), part = common(folk, 100);
            meanIs(gouty(gout), 1, 1, folk / part, 100 / part);
        }
        meanIs(gouty(0), 11111, 5, 594, 1);
        meanIs(gouty(100), 11111, 5, 0, 1);
        meanIs(gouty(50), 0, 0, 0, 1);
        // Lost unless gout takes all five: 594 less 594 by 10 thousand millions.
        meanIs(gouty(1), 11111, 5, 2969999999703L, 5000000000L);
        meanIs(gouty(50), 2, 1, 0, 1);
        SevenLeague most = landed(Lands.MOST);
        meanIs(most, 0, 0, 594, 1);
        meanIs(most, 66666, 5, 594, 1);
        SevenLeague x = gouty(50), none = new SevenLeague();
        due.is("lost() stays", 0, x.lost());
        for (boolean lower : new boolean[] {false, true}) {
            for (int n : Numbers.outside(0, 5)) due.refused("mean(1, " + n + ")", x.mean(1, n, lower), x, 2);
            for (int row : wrongRows()) {
                due.refused("mean(" + row + ", 2)", x.mean(row, 2, lower), x, 2);
                due.refused("mean(" + row + ", 2) without a land", none.mean(row, 2, lower), none, 1);
            }
            due.refused("mean(1, 0)", x.mean(1, 0, lower), x, 2);
            due.refused("mean(0, 0) without a land", none.mean(0, 0, lower), none, 1);
        }
    }

    /** Strides of two that are made, of five from 0, by the document's words. */
    private static int madeBy(int gout, long seed) {
        int made = 0;
        long s = seed;
        for (int i = 0; i < 5; i++) {
            s = (75 * s + 74) % 65537;
            if (s % 100 >= gout) made++;
        }
        return made;
    }

    private static void drawn() {
        due.term("By a SEED: a DRAW mod 100 for each stride: below gout it isn't (SEED becomes (75 times SEED and 74) mod 65,537)");
        due.promise(52, "Where he is behind a ROW with GOUT by a SEED (0 .. 65,536)");
        for (int gout = 0; gout <= 100; gout++) {
            SevenLeague x = gouty(gout);
            for (int seed : new int[] {0, 1, 2, 872, 873, 874, 32767, 32768, 65535, 65536}) {
                due.granted("drawn(33333, 5, " + seed + ") by gout " + gout, 2 * madeBy(gout, seed), x.drawn(33333, 5, seed), x);
            }
        }
        // 0 draws 74, and then 5,624.
        due.is("74 isn't below 74", 9, gouty(74).drawn(1, 1, 0));
        due.is("74 is below 75", 0, gouty(75).drawn(1, 1, 0));
        due.is("24 isn't below 24", 11, gouty(24).drawn(13, 2, 0));
        due.is("24 is below 25", 9, gouty(25).drawn(13, 2, 0));
        // 872 draws 65,474; 873 draws 65,549 less 65,537.
        due.is("74 isn't below 74, short of the mod", 9, gouty(74).drawn(1, 1, 872));
        due.is("74 is below 75", 0, gouty(75).drawn(1, 1, 872));
        due.is("12 isn't below 12, beyond the mod", 9, gouty(12).drawn(1, 1, 873));
        due.is("12 is below 13", 0, gouty(13).drawn(1, 1, 873));
        // 65,536 draws itself.
        due.is("36 isn't below 36", 45, gouty(36).drawn(11111, 5, 65536));
        due.is("36 is below 37", 0, gouty(37).drawn(11111, 5, 65536));
        due.is("no gout", 45, gouty(0).drawn(11111, 5, 1));
        due.is("gout always", 0, gouty(100).drawn(11111, 5, 1));
        due.is("a row of none", 0, gouty(0).drawn(0, 0, 65536));
        // Down from 0 can't be made, and has its draw: 74, then 24.
        due.is("the second draw, 24, isn't below 24", 9, gouty(24).drawn(21, 2, 0));
        due.is("the second draw, 24, is below 25", 0, gouty(25).drawn(21, 2, 0));
        SevenLeague stays = gouty(0);
        stays.drawn(11111, 5, 0);
        due.is("he stays", 0, stays.son());
        due.is("gone() stays", 0, stays.gone());
    }

    private static void drawnRefused() {
        due.promise(52, "NONE: 1 (no LAND); 2");
        SevenLeague x = gouty(50), none = new SevenLeague();
        for (int seed : Numbers.outside(0, 65536)) {
            due.refused("drawn(1, 1, " + seed + ")", x.drawn(1, 1, seed), x, 2);
            due.refused("drawn(0, 0, " + seed + ")", x.drawn(0, 0, seed), x, 2);
            due.refused("drawn(1, 1, " + seed + ") without a land", none.drawn(1, 1, seed), none, 1);
        }
        for (int n : Numbers.outside(0, 5)) due.refused("drawn(1, " + n + ", 0)", x.drawn(1, n, 0), x, 2);
        for (int row : wrongRows()) {
            due.refused("drawn(" + row + ", 2, 0)", x.drawn(row, 2, 0), x, 2);
            due.refused("drawn(" + row + ", 2, 0) without a land", none.drawn(row, 2, 0), none, 1);
        }
        due.refused("drawn(1, 0, 0)", x.drawn(1, 0, 0), x, 2);
        due.refused("drawn(0, 0, 0) without a land", none.drawn(0, 0, 0), none, 1);
    }
}
