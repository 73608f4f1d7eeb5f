import java.util.NoSuchElementException;

/** Promise by promise: ordinary calls, the edges that the document names, wrong ones; all answers worked out by hand. */
public final class PromiseTest {
    private static final Due due = new Due();
    private static final int NO_LED = -77;

    /** The son has made a stride from 2 to 9: gone are 3, 4 (1 deep), 5, 6, 7 (bog, 2 deep), 8 (1 deep). */
    private static final String RUDGE = "land cells 20 son 2 curate 9 gout 50;ground bog 5 7;ground wood 10 11;"
            + "boots seven 7;boots four 4;place rudge at 2 folk 5;place ware at 9 folk 10;place hall at 13 folk 20;"
            + "place end at 18 folk 3;stride seven up;unsure 1;seen 5 gone;seen 12 there";
    /** All heath; places at 1 and 3, folk 7 and 9; strides of 2 and 3; nothing gone. */
    private static final String HEATH = "land cells 12 son 4 curate 6 gout 25;boots two 2;boots three 3;"
            + "place far at 1 folk 7;place near at 3 folk 9";

    private static SevenLeague rudge() {
        return Tapes.landed(RUDGE);
    }

    private static SevenLeague heath() {
        return Tapes.landed(HEATH);
    }

    public static void main(String[] args) {
        aNewObject();
        tapeAndLand();
        now();
        stretchesAndGaps();
        years();
        oneStride();
        rows();
        come();
        spare();
        reachAndSums();
        tours();
        steps();
        unsure();
        sonAndCounty();
        gout();
        acts();
        undoing();
        images();
        told();
        troubles();
        due.end();
    }

    private static int led(SevenLeague x, int i) {
        try {
            return x.led(i);
        } catch (NoSuchElementException e) {
            return NO_LED;
        }
    }

    private static void aNewObject() {
        due.part("1");
        SevenLeague x = new SevenLeague();
        due.is("NONE", -1, SevenLeague.NONE);
        due.is("trouble()", 0, x.trouble());
        due.is("fault()", 0, x.fault());
        due.is("where()", -1, x.where());
        for (int what = 0; what <= 10; what++) due.is("size(" + what + ")", 0, x.size(what));
        due.refused("son()", x.son(), x, 1);
        due.refused("could()", x.could(), x, 1);
        due.refused("surely()", x.surely(), x, 1);
        due.refused("askLeaves()", x.askLeaves(), x, 1);
        due.refused("rest(0)", x.rest(0), x, 1);
        due.refused("rest(10)", x.rest(10), x, 1);
        due.refused("goneIn(61)", x.goneIn(61), x, 1);
        due.refused("leads(0, 5)", x.leads(0, 5), x, 1);
        due.refused("rowLeads(-1, 9)", x.rowLeads(-1, 9), x, 1);
        due.refused("tourAt(11, 0)", x.tourAt(11, 0), x, 1);
        due.refused("odds(0, -1, 0, true)", x.odds(0, -1, 0, true), x, 1);
        due.refused("drawn(0, 0, -1)", x.drawn(0, 0, -1), x, 1);
        due.refused("step(2)", x.step(2), x, 1);
        due.refused("goes(10, ..)", -100, x.goes(10, true, true, true), x, 1);
        due.refused("back(0)", 0, x.back(0) ? 1 : 0, x, 1);
        due.refused("undo()", 0, x.undo() ? 1 : 0, x, 6);
        due.is("led(0)", NO_LED, led(x, 0));
    }

    private static void tapeAndLand() {
        due.part("2");
        SevenLeague x = new SevenLeague();
        for (int i = 1; i <= 45; i++) due.is("feed " + i, 20 * i, x.feed(1, 2, 3, 4, 5));
        due.is("feed 46", -1, x.feed(1, 2, 3, 4, 5));
        due.is("size(10)", 900, x.size(10));
        due.is("trouble() behind feed, of which no number is told", 0, x.trouble());
        due.refused("land(901)", x.land(901), x, 2);
        due.is("size(10) behind land(901)", 900, x.size(10));
        due.refused("land(900)", x.land(900), x, 4);
        due.is("where()", 0, x.where());
        due.is("feed behind land", 20, x.feed(-1, 0, 0, 0, 0));
        due.is("where() behind feed", 0, x.where());

        due.part("3");
        x = new SevenLeague();
        due.refused("land(1)", x.land(1), x, 2);
        due.refused("land(-1)", x.land(-1), x, 2);
        due.refused("land(least int)", x.land(Integer.MIN_VALUE), x, 2);
        Tapes.feed(x, RUDGE);
        due.is("land", 20, x.land(RUDGE.length()));
        due.is("trouble()", 0, x.trouble());
        due.is("size(10)", 0, x.size(10));
        due.is("son()", 9, x.son());
        x.year();
        x.image();
        Tapes.feed(x, HEATH);
        due.is("land of another one", 12, x.land(HEATH.length()));
        due.is("years", 0, x.size(7));
        due.is("to undo", 0, x.size(8));
        due.is("images", 0, x.size(9));
        due.is("gone()", 0, x.gone());
        due.is("cell(5, 0)", 0, x.cell(5, 0));

        due.part("4, 5");
        x.step(0);
        due.is("feed", 20, x.feed(0x626f6f74, 0x73202020, 0x20202020, 0x20202020, 0x20202020));
        due.refused("land(21)", x.land(21), x, 2);
        due.is("fault() behind a refusal by 2", 0, x.fault());
        due.is("where() behind a refusal by 2", -1, x.where());
        due.refused("land(20)", x.land(20), x, 4);
        due.is("fault()", 6, x.fault());
        due.is("where()", 0, x.where());
        due.is("curate() stays", 7, x.curate());
        due.is("fault() behind other calls", 6, x.fault());
        due.is("where() behind other calls", -1, x.where());
        due.is("acts stay", 1, x.size(8));
        due.refused("land(1)", x.land(1), x, 2);
        due.is("fault() stays by 2", 6, x.fault());
        Tapes.feed(x, HEATH);
        x.land(HEATH.length());
        due.is("fault() behind a good land", 0, x.fault());
    }

    private static void now() {
        SevenLeague x = rudge();
        due.part("6");
        int[] ground = {0, 0, 0, 0, 0, 1, 1, 1, 0, 0, 2, 2, 0};
        int[] deep = {0, 0, 0, 1, 1, 2, 2, 2, 1, 0, 0, 0, 0};
        for (int k = 0; k < ground.length; k++) {
            due.is("cell(" + k + ", 0)", ground[k], x.cell(k, 0));
            due.is("cell(" + k + ", 1)", deep[k], x.cell(k, 1));
        }
        due.is("cell(2, 2)", 0, x.cell(2, 2));
        due.is("cell(18, 2)", 3, x.cell(18, 2));
        due.is("cell(19, 2)", -2, x.cell(19, 2));
        due.is("trouble()", 0, x.trouble());
        due.is("cell(9, 3)", 3, x.cell(9, 3));
        x.step(0);
        due.is("cell(9, 3)", 1, x.cell(9, 3));
        due.is("cell(10, 3)", 2, x.cell(10, 3));
        due.is("cell(11, 3)", 0, x.cell(11, 3));
        due.refused("cell(20, 0)", x.cell(20, 0), x, 1);
        due.refused("cell(-1, 0)", x.cell(-1, 0), x, 1);
        due.refused("cell(0, 4)", x.cell(0, 4), x, 1);
        due.refused("cell(0, -1)", x.cell(0, -1), x, 1);
        SevenLeague over = Tapes.landed(HEATH + ";ground bog 2 8;ground wood 4 5;ground heath 5 6;ground bog 6 6");
        int[] laid = {0, 0, 1, 1, 2, 0, 1, 1, 1, 0};
        for (int k = 0; k < laid.length; k++) due.is("later ground, cell " + k, laid[k], over.cell(k, 0));

        due.part("7");
        x = rudge();
        due.is("place(3, 0)", 18, x.place(3, 0));
        due.is("place(3, 1)", 3, x.place(3, 1));
        due.is("place(3, 2)", 0, x.place(3, 2));
        x.stride(0, 0);
        due.is("place(2, 2)", 1, x.place(2, 2));
        due.is("place(3, 2)", 0, x.place(3, 2));
        due.refused("place(4, 0)", x.place(4, 0), x, 1);
        due.refused("place(-1, 0)", x.place(-1, 0), x, 1);
        due.refused("place(0, 3)", x.place(0, 3), x, 1);
        due.refused("place(0, -1)", x.place(0, -1), x, 1);

        due.part("8");
        due.is("boots(0)", 7, x.boots(0));
        due.is("boots(1)", 4, x.boots(1));
        due.refused("boots(2)", x.boots(2), x, 1);
        due.refused("boots(-1)", x.boots(-1), x, 1);

        due.part("9 to 12");
        due.is("son()", 16, x.son());
        due.is("curate()", 9, x.curate());
        due.is("gone()", 12, x.gone());
        due.is("lost()", 20, x.lost());
        due.is("trouble()", 0, x.trouble());
        due.is("cell(10, 1)", 3, x.cell(10, 1));
        x.stride(0, 1);
        due.is("gone() behind the way back", 12, x.gone());
        x.stride(0, 1);
        due.is("lost() behind two ways back: 9 is passed by neither", 20, x.lost());
    }

    private static void stretchesAndGaps() {
        SevenLeague x = rudge();
        due.part("13 to 15");
        due.is("stretches()", 2, x.stretches());
        due.is("longest()", 9, x.longest());
        due.is("widest()", 6, x.widest());
        x.stride(1, 0);
        // There are now 0 to 2, 9, 13 to 19; gone are 3 to 8, 10 to 12.
        due.is("stretches()", 3, x.stretches());
        due.is("longest()", 13, x.longest());
        due.is("widest()", 6, x.widest());
        x.fill(5);
        due.is("stretches()", 4, x.stretches());
        due.is("widest() of two alike", 3, x.widest());
        SevenLeague h = heath();
        due.is("stretches()", 1, h.stretches());
        due.is("longest()", 0, h.longest());
        due.is("widest()", 0, h.widest());
        h.stride(0, 0);
        // 0 to 4 and 6 to 11.
        due.is("longest()", 6, h.longest());
        SevenLeague alike = Tapes.landed("land cells 9 son 3 curate 0 gout 0;boots b 2;stride b up");
        due.is("longest(), the first of two", 0, Tapes.landed("land cells 9 son 3 curate 0 gout 0;boots b 2;stride b up").longest());
        due.is("stretches()", 2, alike.stretches());

        due.part("16, 17");
        x = rudge();
        due.is("between(0, 19)", 6, x.between(0, 19));
        due.is("between(19, 0)", 6, x.between(19, 0));
        due.is("between(5, 8)", 4, x.between(5, 8));
        due.is("between(8, 5)", 4, x.between(8, 5));
        due.is("between(5, 5)", 1, x.between(5, 5));
        due.is("between(2, 2)", 0, x.between(2, 2));
        due.is("deep(0, 19)", 9, x.deep(0, 19));
        due.is("deep(5, 8)", 7, x.deep(5, 8));
        due.is("deep(8, 5)", 7, x.deep(8, 5));
        due.is("deep(7, 7)", 2, x.deep(7, 7));
        due.refused("between(-1, 0)", x.between(-1, 0), x, 1);
        due.refused("between(0, 20)", x.between(0, 20), x, 1);
        due.refused("deep(20, 0)", x.deep(20, 0), x, 1);
        due.refused("deep(0, -1)", x.deep(0, -1), x, 1);
        SevenLeague wide = Tapes.landed("land cells 60 son 59 curate 0 gout 0;ground wood 0 59;boots b 9;stride b down");
        due.is("between(0, 59)", 8, wide.between(0, 59));
        due.is("deep(59, 0)", 24, wide.deep(59, 0));

        due.part("18");
        due.is("nearest()", 1, x.nearest());
        x.stride(1, 0);
        // ware at 9 alone in its stretch: to hall at 13 three are gone.
        due.is("nearest()", 12, x.nearest());
        x.stride(1, 1);
        x.stride(0, 0);
        due.is("nearest() with hall lost", 1, x.nearest());
        due.is("nearest() without a gap", -2, heath().nearest());
        due.is("trouble()", 0, x.trouble());
        SevenLeague told = Tapes.landed("land cells 12 son 4 curate 0 gout 0;boots b 2;place right at 11 folk 1;place left at 0 folk 1;stride b up");
        due.is("nearest(), the lesser by number", 1, told.nearest());
    }

    private static void years() {
        SevenLeague x = rudge();
        due.part("19, 20");
        int[] gone = {6, 4, 3, 3};
        for (int n = 0; n < gone.length; n++) due.is("goneIn(" + n + ")", gone[n], x.goneIn(n));
        due.is("goneIn(60)", 3, x.goneIn(60));
        due.is("gone() stays", 6, x.gone());
        x.stride(0, 0);
        // 10 to 15 gone too: 10, 11 wood, 12 to 15 heath; 13 has folk 20.
        due.is("lostIn(0)", 20, x.lostIn(0));
        due.is("lostIn(2)", 20, x.lostIn(2));
        due.is("lostIn(3)", 0, x.lostIn(3));
        due.is("goneIn(3)", 5, x.goneIn(3));
        due.refused("goneIn(61)", x.goneIn(61), x, 2);
        due.refused("goneIn(-1)", x.goneIn(-1), x, 2);
        due.refused("lostIn(61)", x.lostIn(61), x, 2);
        due.refused("lostIn(-1)", x.lostIn(-1), x, 2);

        due.part("21");
        due.is("backIn(0)", 0, x.backIn(0));
        due.is("backIn(15)", 1, x.backIn(15));
        due.is("backIn(13)", 3, x.backIn(13));
        due.is("backIn(10)", 3, x.backIn(10));
        due.is("backIn(4)", 2, x.backIn(4));
        due.is("backIn(6), bog", -2, x.backIn(6));
        // 11 is wood: 10 is there behind 3 years, 12 behind 4; so 11 is less deep in the years 4, 5, 6.
        due.is("backIn(11)", 6, x.backIn(11));
        due.refused("backIn(20)", x.backIn(20), x, 1);
        due.refused("backIn(-1)", x.backIn(-1), x, 1);

        due.part("22");
        due.is("stillIn()", 6, x.stillIn());
        due.is("stillIn(), heath", 0, heath().stillIn());
        // The widest gap there can be, of wood: both sides heal a cell in three years.
        SevenLeague wide = Tapes.landed("land cells 10 son 0 curate 0 gout 0;ground wood 0 9;boots nine 9;stride nine up");
        due.is("backIn(1)", 3, wide.backIn(1));
        due.is("backIn(4)", 12, wide.backIn(4));
        due.is("backIn(5)", 12, wide.backIn(5));
        due.is("stillIn()", 12, wide.stillIn());
        due.is("goneIn(11)", 2, wide.goneIn(11));
        // Heath between bogs that never come back.
        SevenLeague shut = Tapes.landed("land cells 9 son 0 curate 0 gout 0;ground bog 1 1;ground bog 3 3;boots b 4;stride b up");
        due.is("backIn(2) between bogs", -2, shut.backIn(2));
        due.is("stillIn()", 0, shut.stillIn());
        due.is("trouble()", 0, shut.trouble());
    }

    private static void oneStride() {
        SevenLeague x = rudge();
        due.part("23");
        due.is("leads(0, 0)", 16, x.leads(0, 0));
        due.is("leads(0, 1)", 2, x.leads(0, 1));
        due.is("leads(1, 0)", 13, x.leads(1, 0));
        due.is("leads(1, 1), gone", -2, x.leads(1, 1));
        due.is("trouble()", 0, x.trouble());
        due.refused("leads(2, 0)", x.leads(2, 0), x, 1);
        due.refused("leads(-1, 0)", x.leads(-1, 0), x, 1);
        due.refused("leads(0, 2)", x.leads(0, 2), x, 2);
        due.refused("leads(0, -1)", x.leads(0, -1), x, 2);
        due.part("24");
        due.is("passes(0, 0)", 6, x.passes(0, 0));
        due.is("passes(0, 1)", 0, x.passes(0, 1));
        due.is("passes(1, 0)", 3, x.passes(1, 0));
        due.is("passes(1, 1)", -2, x.passes(1, 1));
        due.refused("passes(2, 0)", x.passes(2, 0), x, 1);
        due.refused("passes(0, 2)", x.passes(0, 2), x, 2);
        due.part("25");
        due.is("costs(0, 0)", 20, x.costs(0, 0));
        due.is("costs(0, 1)", 0, x.costs(0, 1));
        due.is("costs(1, 1)", -2, x.costs(1, 1));
        due.refused("costs(2, 0)", x.costs(2, 0), x, 1);
        due.refused("costs(0, -1)", x.costs(0, -1), x, 2);
        due.is("gone() stays", 6, x.gone());
        x.stride(0, 0);
        due.is("leads(0, 0) out of the land", -2, x.leads(0, 0));
        due.is("leads(1, 0), no such cell", -2, x.leads(1, 0));
        due.is("costs(0, 1), lost already", 0, x.costs(0, 1));
        SevenLeague h = heath();
        due.is("costs(0, 1)", 9, h.costs(0, 1));
        due.is("passes(1, 1)", 2, h.passes(1, 1));
        due.is("leads(1, 1)", 1, h.leads(1, 1));
        h.stride(1, 1);
        due.is("leads(0, 1) below 0", -2, h.leads(0, 1));
    }

    private static void rows() {
        SevenLeague x = heath();
        due.part("26");
        due.is("rowLeads(0, 0)", 4, x.rowLeads(0, 0));
        due.is("rowLeads(1, 1)", 6, x.rowLeads(1, 1));
        due.is("rowLeads(2, 1)", 2, x.rowLeads(2, 1));
        due.is("rowLeads(3, 1)", 7, x.rowLeads(3, 1));
        due.is("rowLeads(4, 1)", 1, x.rowLeads(4, 1));
        due.is("rowLeads(13, 2)", 9, x.rowLeads(13, 2));
        due.is("rowLeads(22, 2)", 0, x.rowLeads(22, 2));
        due.is("rowLeads(14, 2), the first being the highest", 3, x.rowLeads(14, 2));
        due.is("rowLeads(41, 2), over what is gone by it", -2, x.rowLeads(41, 2));
        due.is("rowLeads(42, 2)", -2, x.rowLeads(42, 2));
        due.is("rowLeads(12121, 5)", 6, x.rowLeads(12121, 5));
        due.is("rowLeads(11111, 5)", -2, x.rowLeads(11111, 5));
        due.is("trouble()", 0, x.trouble());
        due.refused("rowLeads(1, -1)", x.rowLeads(1, -1), x, 2);
        due.refused("rowLeads(121212, 6)", x.rowLeads(121212, 6), x, 2);
        due.refused("rowLeads(5, 1)", x.rowLeads(5, 1), x, 2);
        due.refused("rowLeads(10, 2)", x.rowLeads(10, 2), x, 2);
        due.refused("rowLeads(101, 3)", x.rowLeads(101, 3), x, 2);
        due.refused("rowLeads(1, 2)", x.rowLeads(1, 2), x, 2);
        due.refused("rowLeads(0, 1)", x.rowLeads(0, 1), x, 2);
        due.refused("rowLeads(111, 2)", x.rowLeads(111, 2), x, 2);
        due.refused("rowLeads(1, 0)", x.rowLeads(1, 0), x, 2);
        due.refused("rowLeads(-1, 1)", x.rowLeads(-1, 1), x, 2);
        due.refused("rowLeads(-1, 0)", x.rowLeads(-1, 0), x, 2);
        SevenLeague three = Tapes.landed("land cells 20 son 10 curate 0 gout 0;boots a 2;boots b 3;boots c 4");
        due.is("rowLeads(5, 1)", 14, three.rowLeads(5, 1));
        due.is("rowLeads(6, 1)", 6, three.rowLeads(6, 1));
        due.is("rowLeads(46, 2)", 3, three.rowLeads(46, 2));
        due.refused("rowLeads(7, 1)", three.rowLeads(7, 1), three, 2);

        due.part("27");
        due.is("rowLost(0, 0)", 0, x.rowLost(0, 0));
        due.is("rowLost(2, 1)", 9, x.rowLost(2, 1));
        due.is("rowLost(22, 2)", 16, x.rowLost(22, 2));
        due.is("rowLost(142, 3)", 0, x.rowLost(142, 3));
        due.is("rowLost(42, 2)", -2, x.rowLost(42, 2));
        due.refused("rowLost(5, 1)", x.rowLost(5, 1), x, 2);
        due.refused("rowLost(1, 6)", x.rowLost(1, 6), x, 2);
        due.is("gone() stays", 0, x.gone());
        x.stride(0, 1);
        due.is("rowLost(0, 0) of what is lost now", 9, x.rowLost(0, 0));
    }

    private static void comeBy(SevenLeague x, int k, int... digits) {
        due.is("come(" + k + ")", digits.length, x.come(k));
        for (int i = 0; i < digits.length; i++) due.is("comeAt(" + k + ", " + i + ")", digits[i], x.comeAt(k, i));
        due.refused("comeAt(" + k + ", " + digits.length + ")", x.comeAt(k, digits.length), x, 1);
        due.refused("comeAt(" + k + ", -1)", x.comeAt(k, -1), x, 1);
    }

    private static void come() {
        due.part("28, 29");
        SevenLeague x = heath();
        comeBy(x, 4);
        comeBy(x, 6, 1);
        comeBy(x, 2, 2);
        comeBy(x, 7, 3);
        comeBy(x, 1, 4);
        comeBy(x, 5, 2, 3);
        comeBy(x, 9, 1, 3);
        comeBy(x, 3, 1, 4);
        comeBy(x, 0, 2, 2);
        comeBy(x, 11, 1, 1, 3);
        due.refused("come(12)", x.come(12), x, 1);
        due.refused("come(-1)", x.come(-1), x, 1);
        due.refused("comeAt(12, 0)", x.comeAt(12, 0), x, 1);
        x.stride(1, 1);
        // He is at 1; 2 and 3 are gone.
        comeBy(x, 4, 3);
        due.is("come(2), gone", -2, x.come(2));
        x.undo();
        comeBy(x, 2, 2);
        newLands();
        SevenLeague twos = Tapes.landed("land cells 30 son 0 curate 0 gout 0;boots b 2");
        comeBy(twos, 10, 1, 1, 1, 1, 1);
        due.is("come(12), six strides", -2, twos.come(12));
        due.is("come(11)", -2, twos.come(11));
        due.is("trouble()", 0, twos.trouble());
        due.refused("comeAt(11, 0)", twos.comeAt(11, 0), twos, 1);
    }

    /** Lands alike but for their boots: what was found out in one is forgotten by the next, and by the one behind it. */
    private static void newLands() {
        SevenLeague x = heath();
        due.is("come(7)", 1, x.come(7));
        String like = "land cells 12 son 4 curate 6 gout 25;boots two 4";
        for (int i = 0; i < 3; i++) {
            for (int times = 0; times < i; times++) {
                Tapes.feed(x, like);
                x.land(like.length());
            }
            due.is("come(7) behind " + i + " lands", i == 0 ? 1 : -2, x.come(7));
            Tapes.feed(x, HEATH);
            x.land(HEATH.length());
            due.is("come(7) again", 1, x.come(7));
        }
    }

    private static void spareBy(SevenLeague x, int k, int folk, int row) {
        due.is("spare(" + k + ")", folk, x.spare(k));
        due.is("spareRow(" + k + ")", row, x.spareRow(k));
    }

    private static void spare() {
        due.part("30, 31");
        SevenLeague x = heath();
        spareBy(x, 4, 0, 0);
        spareBy(x, 2, 9, 2);
        // Over 6 and 3 instead of over 3.
        spareBy(x, 1, 0, 142);
        spareBy(x, 5, 9, 23);
        spareBy(x, 9, 0, 13);
        due.refused("spare(12)", x.spare(12), x, 1);
        due.refused("spare(-1)", x.spare(-1), x, 1);
        due.refused("spareRow(12)", x.spareRow(12), x, 1);
        due.refused("spareRow(-1)", x.spareRow(-1), x, 1);
        x.stride(0, 1);
        // 3 is lost already: none more.
        spareBy(x, 4, 0, 1);
        SevenLeague twos = Tapes.landed("land cells 30 son 0 curate 0 gout 0;boots b 2;place p at 1 folk 8;place q at 5 folk 9");
        spareBy(twos, 10, 17, 11111);
        spareBy(twos, 4, 8, 11);
        spareBy(twos, 11, -2, -2);
        spareBy(twos, 12, -2, -2);
        due.is("trouble()", 0, twos.trouble());
    }

    private static void reachAndSums() {
        due.part("32");
        SevenLeague x = heath();
        due.is("reach(0)", 16, x.reach(0));
        due.is("reach(1)", 214, x.reach(1));
        due.is("reach(2)", 2047, x.reach(2));
        due.is("reach(5)", 4095, x.reach(5));
        due.refused("reach(6)", x.reach(6), x, 2);
        due.refused("reach(-1)", x.reach(-1), x, 2);
        SevenLeague far = Tapes.landed("land cells 60 son 40 curate 0 gout 0;boots nine 9");
        due.is("reach(1), none below 30", 0, far.reach(1));
        due.is("reach(2)", 1 << 22, far.reach(2));
        due.is("reach(5)", 1 << 22 | 1 << 13 | 1 << 4, far.reach(5));
        due.is("reach(0) at 29", 1 << 29, Tapes.landed("land cells 60 son 29 curate 0 gout 0;boots nine 9").reach(0));
        due.is("reach(0) at 30", 0, Tapes.landed("land cells 60 son 30 curate 0 gout 0;boots nine 9").reach(0));

        due.part("33");
        due.is("sum(0)", 0, x.sum(0));
        due.is("sum(1)", -2, x.sum(1));
        due.is("sum(2)", 1, x.sum(2));
        due.is("sum(7)", 3, x.sum(7));
        due.is("sum(60)", 20, x.sum(60));
        due.refused("sum(61)", x.sum(61), x, 2);
        due.refused("sum(-1)", x.sum(-1), x, 2);
        SevenLeague three = Tapes.landed("land cells 20 son 10 curate 0 gout 0;boots a 9;boots b 6;boots c 4");
        due.is("sum(10)", 2, three.sum(10));
        due.is("sum(11)", -2, three.sum(11));
        due.is("sum(12)", 2, three.sum(12));
        due.is("sum(14)", 3, three.sum(14));
        due.is("sum(55)", 7, three.sum(55));

        due.part("34");
        SevenLeague six = Tapes.landed("land cells 20 son 10 curate 0 gout 0;boots a 6;boots b 9");
        due.is("over(10)", 0, six.over(10));
        due.is("over(12)", 2, six.over(12));
        due.is("over(8)", 2, six.over(8));
        due.is("over(0)", 1, six.over(0));
        due.is("over(19)", 0, six.over(19));
        due.is("over(0), 7 and 4", 0, rudge().over(0));
        due.is("over(0), 9 alone", 1, Tapes.landed("land cells 20 son 10 curate 0 gout 0;boots a 9").over(0));
        due.refused("over(20)", six.over(20), six, 1);
        due.refused("over(-1)", six.over(-1), six, 1);

        due.part("35");
        due.is("never(), 2 and 3", 1, x.never());
        due.is("never(), 7 and 4", 17, rudge().never());
        due.is("never(), 9 and 6", 59, six.never());
        due.is("never(), 9 alone", 60, far.never());
        due.is("never(), 9, 6, 4", 11, three.never());
    }

    private static void tourBy(SevenLeague x, int lost, int gone, int... cells) {
        int n = cells.length - 1;
        due.is("tour(" + n + ")", lost, x.tour(n));
        due.is("tourGone(" + n + ")", gone, x.tourGone(n));
        for (int i = 0; i <= n; i++) due.is("tourAt(" + n + ", " + i + ")", cells[i], x.tourAt(n, i));
        due.refused("tourAt(" + n + ", " + (n + 1) + ")", x.tourAt(n, n + 1), x, 1);
        due.refused("tourAt(" + n + ", -1)", x.tourAt(n, -1), x, 1);
    }

    private static void tours() {
        due.part("36 to 38");
        SevenLeague x = rudge();
        tourBy(x, 0, 6, 9);
        tourBy(x, 0, 5, 9, 8);
        tourBy(x, 0, 5, 9, 10, 9, 8);
        tourBy(x, 0, 4, 9, 8, 7, 8, 7);
        due.is("curate() stays", 9, x.curate());
        due.is("gone() stays", 6, x.gone());
        x.stride(0, 0);
        // 10, 11 (wood, 3 deep), 12 to 15 are gone too; hall is lost at 13.
        tourBy(x, 20, 11, 9, 10, 11, 12);
        tourBy(x, 0, 10, 9, 10, 11, 12, 13);
        tourBy(x, 0, 9, 9, 10, 11, 12, 13, 14);
        due.refused("tour(11)", x.tour(11), x, 2);
        due.refused("tour(-1)", x.tour(-1), x, 2);
        due.refused("tourGone(11)", x.tourGone(11), x, 2);
        due.refused("tourGone(-1)", x.tourGone(-1), x, 2);
        due.refused("tourAt(11, 0)", x.tourAt(11, 0), x, 2);
        tourBy(Tapes.landed("land cells 8 son 0 curate 7 gout 0;boots b 2"), 0, 0, 7, 6);
        tourBy(Tapes.landed("land cells 8 son 0 curate 7 gout 0;boots b 2"), 0, 0, 7, 6, 7, 6, 7, 6, 7, 6, 7, 6, 7);
        tourBy(Tapes.landed("land cells 8 son 0 curate 0 gout 0;boots b 2"), 0, 0, 0, 1, 2, 3, 4, 5, 6, 7, 6);
    }

    private static void steps() {
        due.part("39");
        SevenLeague x = rudge();
        due.is("steps(2)", 0, x.steps(2));
        due.is("steps(8)", 1, x.steps(8));
        due.is("steps(7)", 4, x.steps(7));
        due.is("steps(5)", 6, x.steps(5));
        due.is("steps(3)", 6, x.steps(3));
        due.refused("steps(20)", x.steps(20), x, 1);
        due.refused("steps(-1)", x.steps(-1), x, 1);
        SevenLeague on = Tapes.landed("land cells 9 son 3 curate 4 gout 0;ground wood 4 4;boots b 2;stride b up");
        due.is("steps(4), he being there", 6, on.steps(4));
        on.step(0);
        due.is("steps(4), next to it", 5, on.steps(4));
        on.step(1);
        due.is("steps(4)", 4, on.steps(4));
    }

    private static final String UNSURE = "land cells 20 son 10 curate 0 gout 0;boots a 3;boots b 4;stride a up;stride b up;";

    private static void fitting(String more, int could, int surely, int ask, int leaves, int judge, int... sets) {
        SevenLeague x = Tapes.landed(UNSURE + more);
        for (int time = 0; time < 2; time++) {
            due.is(more + ": fits()", sets.length, x.fits());
            for (int i = 0; i < sets.length; i++) due.is(more + ": fitAt(" + i + ")", sets[i], x.fitAt(i));
            due.refused(more + ": fitAt(" + sets.length + ")", x.fitAt(sets.length), x, 1);
            due.refused(more + ": fitAt(-1)", x.fitAt(-1), x, 1);
            due.is(more + ": could()", could, x.could());
            due.is(more + ": surely()", surely, x.surely());
            due.is(more + ": ask()", ask, x.ask());
            due.is(more + ": askLeaves()", leaves, x.askLeaves());
            due.is(more + ": judge()", judge, x.judge());
            due.is(more + ": trouble()", 0, x.trouble());
            // Strides told, not what is done later, is what counts.
            x.stride(1, 1);
            x.fill(11);
            x.year();
        }
    }

    private static void unsure() {
        due.part("40 to 46");
        fitting("unsure 1;unsure 2", 3, 0, 0, 2, -2, 0, 1, 2, 3);
        fitting("unsure 1;unsure 2;seen 11 gone", 2, 0, 1, 1, -2, 0, 2);
        fitting("unsure 2;unsure 1;seen 11 gone", 1, 0, 0, 1, -2, 0, 1);
        fitting("seen 11 there;unsure 1;unsure 2", 3, 1, 1, 1, 0, 1, 3);
        fitting("unsure 1;unsure 2;seen 10 gone;seen 11 there", 1, 1, 0, 1, 0, 1);
        fitting("unsure 1;unsure 2;seen 12 gone;seen 11 there", 0, 0, -2, -2, 1);
        fitting("unsure 1;unsure 2;seen 0 gone", 0, 0, -2, -2, 0);
        fitting("unsure 1;unsure 2;seen 4 gone", 3, 3, 0, 1, 0, 3);
        fitting("seen 12 gone;seen 14 gone;seen 13 there", 0, 0, -2, -2, -2, 0);
        fitting("unsure 2;seen 14 there", 1, 1, 0, 1, 0, 1);
        SevenLeague x = rudge();
        due.is("fits(), he can't go down from 2", 1, x.fits());
        due.is("could()", 0, x.could());
        due.is("ask()", 0, x.ask());
        due.is("askLeaves()", 1, x.askLeaves());
        SevenLeague ahead = Tapes.landed("land cells 20 son 10 curate 0 gout 0;seen 11 gone;boots a 3;stride a up");
        due.is("judge(), seen told ahead of the stride", -2, ahead.judge());
        due.is("fits()", 1, ahead.fits());
        SevenLeague four = Tapes.landed("land cells 60 son 30 curate 0 gout 0;boots a 2;stride a up;stride a up;stride a up;stride a up;"
                + "stride a up;unsure 5;unsure 4;unsure 3;unsure 2");
        due.is("fits() of four", 16, four.fits());
        due.is("fitAt(15)", 15, four.fitAt(15));
        due.is("could()", 15, four.could());
        due.is("askLeaves()", 8, four.askLeaves());
    }

    private static void sonAndCounty() {
        due.part("47");
        SevenLeague x = heath();
        for (int of = 0; of < 2; of++) {
            due.is("goes, both stay", 1, x.goes(5, false, false, of == 1));
            due.is("goes, both go", -5, x.goes(5, true, true, of == 1));
            due.is("goes, the son alone", of == 0 ? 3 : -1, x.goes(5, true, false, of == 1));
            due.is("goes, the county alone", of == 0 ? -1 : 3, x.goes(5, false, true, of == 1));
        }
        due.is("goes, no mud", 0, x.goes(0, true, true, false));
        due.is("goes, most mud", -9, x.goes(9, true, true, true));
        due.is("trouble()", 0, x.trouble());
        due.refused("goes(10, ..)", -100, x.goes(10, true, true, true), x, 2);
        due.refused("goes(-1, ..)", -100, x.goes(-1, true, true, true), x, 2);
        due.part("48, 49");
        int[] rests = {1, 3, 2, 2, 2, 2, 2, 2, 2, 2};
        for (int mud = 0; mud <= 9; mud++) {
            due.is("rests(" + mud + ")", rests[mud], x.rests(mud));
            due.is("rest(" + mud + ")", mud == 0 ? 11 : 1, x.rest(mud));
        }
        due.refused("rests(10)", x.rests(10), x, 2);
        due.refused("rests(-1)", x.rests(-1), x, 2);
        due.refused("rest(10)", x.rest(10), x, 2);
        due.refused("rest(-1)", x.rest(-1), x, 2);
    }

    private static void oddsAre(SevenLeague x, int k, int row, int n, long upper, long lower) {
        due.is("odds(" + k + ", " + row + ", " + n + ", false)", upper, x.odds(k, row, n, false));
        due.is("odds(" + k + ", " + row + ", " + n + ", true)", lower, x.odds(k, row, n, true));
    }

    private static void meanIs(SevenLeague x, int row, int n, long upper, long lower) {
        due.is("mean(" + row + ", " + n + ", false)", upper, x.mean(row, n, false));
        due.is("mean(" + row + ", " + n + ", true)", lower, x.mean(row, n, true));
    }

    private static void gout() {
        due.part("50");
        SevenLeague x = rudge();
        oddsAre(x, 9, 0, 0, 1, 1);
        oddsAre(x, 8, 0, 0, 0, 1);
        oddsAre(x, 16, 1, 1, 1, 2);
        oddsAre(x, 9, 1, 1, 1, 2);
        oddsAre(x, 13, 1, 1, 0, 1);
        oddsAre(x, 9, 12, 2, 1, 2);
        oddsAre(x, 2, 12, 2, 1, 4);
        oddsAre(x, 16, 12, 2, 1, 4);
        oddsAre(x, 9, 4, 1, 1, 1);
        oddsAre(x, 16, 41, 2, 1, 2);
        due.refused("odds(20, ..)", x.odds(20, 1, 1, false), x, 1);
        due.refused("odds(-1, ..)", x.odds(-1, 1, 1, true), x, 1);
        due.refused("odds of a digit of no boots", x.odds(0, 5, 1, false), x, 2);
        due.refused("odds of six", x.odds(0, 111111, 6, true), x, 2);
        SevenLeague h = heath();
        oddsAre(h, 6, 1, 1, 3, 4);
        oddsAre(h, 4, 1, 1, 1, 4);
        SevenLeague far = Tapes.landed("land cells 60 son 0 curate 0 gout 33;boots nine 9;place p at 1 folk 99");
        oddsAre(far, 45, 11111, 5, 1350125107L, 10000000000L);
        SevenLeague lame = Tapes.landed("land cells 60 son 0 curate 0 gout 100;boots nine 9;place p at 1 folk 99");
        oddsAre(lame, 0, 11111, 5, 1, 1);
        oddsAre(lame, 9, 11111, 5, 0, 1);
        due.is("gone() stays", 6, x.gone());

        due.part("51");
        meanIs(x, 0, 0, 0, 1);
        meanIs(x, 1, 1, 10, 1);
        meanIs(x, 12, 2, 10, 1);
        meanIs(h, 2, 1, 27, 4);
        // At 1 are 99 lost unless gout takes all five: 99 times (10^10 less 33^5).
        meanIs(far, 11111, 5, 99L * (10000000000L - 39135393L), 10000000000L);
        meanIs(lame, 11111, 5, 0, 1);
        h.stride(0, 1);
        meanIs(h, 0, 0, 9, 1);
        due.refused("mean(5, 1)", h.mean(5, 1, false), h, 2);
        due.refused("mean(-1, 0)", h.mean(-1, 0, true), h, 2);

        due.part("52");
        due.is("drawn(0, 0, 0)", 9, x.drawn(0, 0, 0));
        // 0 leads to 74, and that to 5,624; 1 leads to 149; 65,536 to itself.
        due.is("drawn(1, 1, 0)", 16, x.drawn(1, 1, 0));
        due.is("drawn(12, 2, 0)", 16, x.drawn(12, 2, 0));
        due.is("drawn(1, 1, 1)", 9, x.drawn(1, 1, 1));
        due.is("drawn(1, 1, 65536)", 9, x.drawn(1, 1, 65536));
        due.is("drawn(41, 2, 0), a draw too for one he can't make", 9, x.drawn(41, 2, 0));
        due.is("drawn(11111, 5, 3), no gout", 4, Tapes.landed("land cells 9 son 0 curate 0 gout 0;boots b 4").drawn(1, 1, 3));
        due.is("drawn(1, 1, 3), gout always", 0, lame.drawn(1, 1, 3));
        due.refused("drawn(1, 1, 65537)", x.drawn(1, 1, 65537), x, 2);
        due.refused("drawn(1, 1, -1)", x.drawn(1, 1, -1), x, 2);
        due.refused("drawn(5, 1, 0)", x.drawn(5, 1, 0), x, 2);
    }

    private static void acts() {
        SevenLeague x = rudge();
        due.part("53");
        due.is("stride(1, 0)", 13, x.stride(1, 0));
        due.is("gone()", 9, x.gone());
        due.is("cell(10, 1)", 3, x.cell(10, 1));
        due.is("cell(12, 1)", 1, x.cell(12, 1));
        due.refused("stride(0, 1), gone", x.stride(0, 1), x, 5);
        due.refused("stride(0, 0), no such cell", x.stride(0, 0), x, 5);
        due.refused("stride(2, 0)", x.stride(2, 0), x, 1);
        due.refused("stride(-1, 0)", x.stride(-1, 0), x, 1);
        due.refused("stride(0, 2)", x.stride(0, 2), x, 2);
        due.refused("stride(0, -1)", x.stride(0, -1), x, 2);
        due.is("refused ones aren't kept", 1, x.size(8));
        due.is("stride(1, 1)", 9, x.stride(1, 1));
        SevenLeague again = Tapes.landed("land cells 12 son 0 curate 0 gout 0;ground wood 0 11;boots b 3;stride b up");
        again.step(0);
        again.stride(0, 1);
        due.is("what is gone already stays as deep as it is", 2, again.cell(1, 1));

        due.part("54");
        due.is("step(1)", 8, x.step(1));
        due.is("cell(8, 1)", 0, x.cell(8, 1));
        due.is("step(1)", 7, x.step(1));
        due.is("cell(7, 1)", 1, x.cell(7, 1));
        due.is("step(0)", 8, x.step(0));
        due.is("cell(8, 1)", 0, x.cell(8, 1));
        due.is("step(1)", 7, x.step(1));
        due.is("cell(7, 1)", 0, x.cell(7, 1));
        due.refused("step(2)", x.step(2), x, 2);
        due.refused("step(-1)", x.step(-1), x, 2);
        SevenLeague edge = Tapes.landed("land cells 8 son 0 curate 7 gout 0;boots b 2");
        due.refused("step(0) out of the land", edge.step(0), edge, 5);
        due.is("step(1)", 6, edge.step(1));
        edge = Tapes.landed("land cells 8 son 0 curate 0 gout 0;boots b 2");
        due.refused("step(1) out of the land", edge.step(1), edge, 5);
        due.is("step(0)", 1, edge.step(0));

        due.part("55");
        x = rudge();
        due.is("year()", 2, x.year());
        due.is("gone()", 4, x.gone());
        due.is("year()", 1, x.year());
        due.is("year()", 0, x.year());
        due.is("size(7)", 3, x.size(7));
        due.is("bog stays", 2, x.cell(5, 1));
        due.is("trouble()", 0, x.trouble());
        // No object is used for so many calls, but the document tells the number.
        SevenLeague old = heath();
        for (int i = 0; i < 999; i++) old.year();
        due.refused("year() behind 999", old.year(), old, 3);
        due.is("size(7)", 999, old.size(7));

        due.part("56");
        due.is("fill(6)", 2, x.fill(6));
        due.is("cell(6, 1)", 0, x.cell(6, 1));
        due.refused("fill(6)", x.fill(6), x, 5);
        due.refused("fill(20)", x.fill(20), x, 1);
        due.refused("fill(-1)", x.fill(-1), x, 1);
        due.is("acts", 4, x.size(8));
        SevenLeague wood = Tapes.landed("land cells 10 son 0 curate 0 gout 0;ground wood 0 9;boots nine 9;stride nine up");
        due.is("fill of wood", 3, wood.fill(4));
        due.is("gone()", 7, wood.gone());
    }

    private static void undoing() {
        due.part("57");
        SevenLeague x = rudge();
        due.refused("undo(), strides told are no acts", 0, x.undo() ? 1 : 0, x, 6);
        x.stride(0, 0);
        x.step(0);
        x.year();
        x.fill(5);
        due.is("undo fill", true, x.undo());
        due.is("trouble()", 0, x.trouble());
        due.is("cell(5, 1)", 2, x.cell(5, 1));
        due.is("undo year", true, x.undo());
        due.is("size(7)", 0, x.size(7));
        due.is("gone()", 12, x.gone());
        due.is("undo step", true, x.undo());
        due.is("curate()", 9, x.curate());
        due.is("cell(10, 1)", 3, x.cell(10, 1));
        due.is("undo stride", true, x.undo());
        due.is("son()", 9, x.son());
        due.is("gone()", 6, x.gone());
        due.is("lost()", 0, x.lost());
        due.refused("undo()", 0, x.undo() ? 1 : 0, x, 6);
        for (int i = 0; i < 20; i++) x.step(i < 10 ? 0 : 1);
        due.is("size(8)", 16, x.size(8));
        for (int i = 0; i < 16; i++) due.is("undo " + i, true, x.undo());
        due.refused("undo, the 17th", 0, x.undo() ? 1 : 0, x, 6);
        due.is("curate() behind four steps that stay", 13, x.curate());
    }

    private static void images() {
        due.part("58, 59");
        SevenLeague x = rudge();
        due.refused("back(0)", 0, x.back(0) ? 1 : 0, x, 1);
        due.is("image()", 0, x.image());
        x.stride(0, 0);
        x.step(0);
        x.year();
        due.is("image()", 1, x.image());
        due.is("acts stay by an image", 3, x.size(8));
        x.fill(5);
        due.is("image()", 2, x.image());
        due.refused("image()", x.image(), x, 3);
        due.is("back(0)", true, x.back(0));
        due.is("trouble()", 0, x.trouble());
        due.is("son()", 9, x.son());
        due.is("curate()", 9, x.curate());
        due.is("gone()", 6, x.gone());
        due.is("size(7)", 0, x.size(7));
        due.is("size(8)", 0, x.size(8));
        due.is("size(9)", 3, x.size(9));
        due.refused("undo()", 0, x.undo() ? 1 : 0, x, 6);
        x.year();
        due.is("back(1)", true, x.back(1));
        due.is("son()", 16, x.son());
        due.is("curate()", 10, x.curate());
        due.is("size(7)", 1, x.size(7));
        due.is("cell(5, 1)", 2, x.cell(5, 1));
        due.is("come(9)", 1, x.come(9));
        due.is("back(2)", true, x.back(2));
        due.is("cell(5, 1)", 0, x.cell(5, 1));
        due.refused("back(3)", 0, x.back(3) ? 1 : 0, x, 1);
        due.refused("back(-1)", 0, x.back(-1) ? 1 : 0, x, 1);
        due.is("back(0) again, though acts came behind it", true, x.back(0));
        due.is("gone()", 6, x.gone());
    }

    private static void told() {
        due.part("60");
        SevenLeague x = heath();
        due.is("led(0)", NO_LED, led(x, 0));
        x.stride(0, 1);
        due.is("led(0)", 1, led(x, 0));
        due.is("led(1)", NO_LED, led(x, 1));
        x.stride(0, 1);
        due.is("led(0)", 0, led(x, 0));
        due.is("led(1)", 1, led(x, 1));
        due.is("led(2)", NO_LED, led(x, 2));
        due.is("led(-1)", NO_LED, led(x, -1));
        due.is("led(least int)", NO_LED, led(x, Integer.MIN_VALUE));

        due.part("61");
        x = rudge();
        x.feed(0, 0, 0, 0, 0);
        x.year();
        x.step(0);
        x.image();
        int[] sizes = {20, 50, 2, 4, 1, 1, 2, 1, 2, 1, 20};
        for (int what = 0; what < sizes.length; what++) due.is("size(" + what + ")", sizes[what], x.size(what));
        due.is("size(11)", -1, x.size(11));
        due.is("size(-1)", -1, x.size(-1));
    }

    private static void troubles() {
        due.part("62");
        SevenLeague x = rudge();
        due.is("trouble()", 0, x.trouble());
        x.fill(0);
        due.is("trouble()", 5, x.trouble());
        x.size(11);
        x.fault();
        x.where();
        led(x, 0);
        x.feed(0, 0, 0, 0, 0);
        due.is("trouble() behind calls of which no number is told", 5, x.trouble());
        x.son();
        due.is("trouble()", 0, x.trouble());
        x.land(21);
        due.is("trouble()", 2, x.trouble());
        due.is("-2 is no refusal", -2, x.leads(1, 1));
        due.is("trouble()", 0, x.trouble());
        x.land(20);
        due.is("trouble()", 4, x.trouble());
        x.feed(0, 0, 0, 0, 0);
        due.is("where() behind feed", 0, x.where());
        x.undo();
        due.is("trouble()", 6, x.trouble());
        due.is("where()", -1, x.where());
    }
}
