import java.util.ArrayList;
import java.util.List;
import java.util.NoSuchElementException;

/** The bounds of acts, undoing, images and of what is told, sentence by sentence: promises 53 to 62, term IV. */
public final class ActBoundsTest {
    private static final Due due = new Due();
    private static final int NO_LED = -77;

    public static void main(String[] args) {
        stride();
        step();
        year();
        fill();
        undo();
        undoKept();
        undoRing();
        image();
        back();
        led();
        size();
        sizeAtMost();
        trouble();
        troubleStays();
        due.had(53, 62);
        due.end();
    }

    private static SevenLeague landed(String text) {
        return Tapes.landed(text);
    }

    private static SevenLeague inBoots(int cells, int son, int length) {
        return landed("land cells " + cells + " son " + son + " curate 0 gout 0;boots b " + length);
    }

    private static int led(SevenLeague x, int i) {
        try {
            return x.led(i);
        } catch (NoSuchElementException e) {
            return NO_LED;
        }
    }

    // ---- acts

    private static void stride() {
        due.promise(53, "STRIDE: where he is then. NONE: 1; 2 (way); 5 (he can't)");
        for (int cells : new int[] {10, 60}) {
            for (int length = 2; length <= 9; length++) {
                SevenLeague x = inBoots(cells, cells - 1 - length, length);
                due.granted("stride(0, 0) to the last cell", cells - 1, x.stride(0, 0), x);
                due.refused("stride(0, 0) beyond it", x.stride(0, 0), x, 5);
                due.granted("stride(0, 1) back", cells - 1 - length, x.stride(0, 1), x);
                x = inBoots(cells, cells - length, length);
                due.refused("stride(0, 0) one beyond", x.stride(0, 0), x, 5);
                x = inBoots(cells, length, length);
                due.granted("stride(0, 1) to cell 0", 0, x.stride(0, 1), x);
                due.refused("stride(0, 1) below it", x.stride(0, 1), x, 5);
                x = inBoots(cells, length - 1, length);
                due.refused("stride(0, 1) one below", x.stride(0, 1), x, 5);
                due.is("son() stays", length - 1, x.son());
                due.is("gone() stays", 0, x.gone());
                due.is("nothing to undo", 0, x.size(8));
            }
        }
        SevenLeague three = landed(Lands.THREE);
        due.refused("stride(1, 1) onto what is gone", three.stride(1, 1), three, 5);
        due.granted("stride(1, 0)", 6, three.stride(1, 0), three);
        SevenLeague most = landed(Lands.MOST), none = new SevenLeague();
        for (int way = 0; way <= 1; way++) {
            for (int b : Numbers.outside(0, 2)) due.refused("stride(" + b + ", " + way + ")", most.stride(b, way), most, 1);
            due.refused("stride(0, " + way + ") without a land", none.stride(0, way), none, 1);
        }
        for (int way : Numbers.outside(0, 1)) {
            due.refused("stride(2, " + way + ")", most.stride(2, way), most, 2);
            due.refused("stride(3, " + way + ")", most.stride(3, way), most, 1);
            due.refused("stride(0, " + way + ") without a land", none.stride(0, way), none, 1);
        }
        due.is("acts", 0, most.size(8));
    }

    private static void step() {
        due.promise(54, "STEP (way 0 up, 1 down): where he is then. NONE: 1 (no LAND); 2 (way); 5 (there is no CELL)");
        for (int cells : new int[] {8, 60}) {
            SevenLeague x = landed("land cells " + cells + " son 0 curate 1 gout 0;boots b 2");
            due.granted("step(1) to cell 0", 0, x.step(1), x);
            due.refused("step(1) below it", x.step(1), x, 5);
            due.is("curate() stays", 0, x.curate());
            due.granted("step(0)", 1, x.step(0), x);
            x = landed("land cells " + cells + " son 0 curate " + (cells - 2) + " gout 0;boots b 2");
            due.granted("step(0) to the last cell", cells - 1, x.step(0), x);
            due.refused("step(0) beyond it", x.step(0), x, 5);
            due.is("curate() stays", cells - 1, x.curate());
            due.is("acts", 1, x.size(8));
            due.granted("step(1)", cells - 2, x.step(1), x);
            for (int way : Numbers.outside(0, 1)) due.refused("step(" + way + ")", x.step(way), x, 2);
        }
        SevenLeague none = new SevenLeague(), three = landed(Lands.THREE);
        for (int way = -1; way <= 2; way++) due.refused("step(" + way + ") without a land", none.step(way), none, 1);
        for (int k = 6; k >= 3; k--) due.granted("step(1), gone or not", k, three.step(1), three);
        due.is("cell(3, 1)", 2, three.cell(3, 1));
    }

    private static void year() {
        due.promise(55, "YEAR: CELLS that are there again, how many. NONE: 1 (no LAND); 3 (999 went by)");
        SevenLeague none = new SevenLeague(), wood = landed(Lands.WOOD), least = landed(Lands.LEAST);
        due.refused("year()", none.year(), none, 1);
        due.granted("year(), nothing gone", 0, least.year(), least);
        due.is("size(7)", 1, least.size(7));
        for (int n = 1; n <= 14; n++) {
            due.granted("year()", n <= 12 && n % 3 == 0 ? 2 : 0, wood.year(), wood);
            due.is("size(7)", n, wood.size(7));
        }
        due.is("year(), both ends of seven gaps", 14, landed(Lands.LEAPT).year());
        // An object is used for 512 calls, so 999 years are beyond what is promised; the number is told all the same.
        for (int n = 2; n <= 999; n++) due.granted("year " + n, 0, least.year(), least);
        for (int i = 0; i < 2; i++) {
            due.refused("year() behind 999", least.year(), least, 3);
            due.is("size(7)", 999, least.size(7));
            due.is("size(8)", 16, least.size(8));
        }
        due.is("undo()", true, least.undo());
        due.is("size(7)", 998, least.size(7));
        due.granted("year(), the 999th again", 0, least.year(), least);
        due.refused("year()", least.year(), least, 3);
    }

    private static void fill() {
        due.promise(56, "FILL: how deep it was. NONE: 1; 5 (it is there)");
        SevenLeague three = landed(Lands.THREE), far = landed(Lands.LEAPT), none = new SevenLeague();
        due.refused("fill(0), there", three.fill(0), three, 5);
        due.refused("fill(4), the son's", three.fill(4), three, 5);
        due.refused("fill(7), the last one", three.fill(7), three, 5);
        due.is("acts", 0, three.size(8));
        for (int k = 1; k <= 3; k++) {
            due.granted("fill(" + k + ")", k, three.fill(k), three);
            due.is("cell(" + k + ", 1)", 0, three.cell(k, 1));
            due.refused("fill(" + k + ") again", three.fill(k), three, 5);
        }
        due.is("acts", 3, three.size(8));
        due.is("gone()", 0, three.gone());
        for (int k : Numbers.outside(0, 7)) due.refused("fill(" + k + ")", three.fill(k), three, 1);
        for (int k : Numbers.outside(0, 59)) due.refused("fill(" + k + ")", far.fill(k), far, 1);
        due.granted("fill(58)", 1, far.fill(58), far);
        due.granted("fill(1)", 1, far.fill(1), far);
        due.refused("fill(59)", far.fill(59), far, 5);
        due.refused("fill(0) without a land", none.fill(0), none, 1);
        SevenLeague shallow = landed(Lands.THREE);
        shallow.year();
        due.is("fill(3), as deep as it is, not as its ground", 2, shallow.fill(3));
    }

    // ---- undoing

    private static void undo() {
        due.promise(57, "UNDO: true; false: 6");
        SevenLeague none = new SevenLeague(), x = landed(Lands.THREE);
        due.refused("undo() without a land", 0, none.undo() ? 1 : 0, none, 6);
        due.refused("undo(), strides told are no acts", 0, x.undo() ? 1 : 0, x, 6);
        due.is("gone() stays", 3, x.gone());
        due.is("son() stays", 4, x.son());
        x.stride(1, 1);
        x.step(0);
        x.fill(0);
        x.year();
        x.undo();
        due.refused("undo(), refused ones are no acts", 0, x.undo() ? 1 : 0, x, 6);
        for (int kind = 0; kind < 4; kind++) {
            if (kind == 0) x.stride(1, 0);
            if (kind == 1) x.step(1);
            if (kind == 2) x.year();
            if (kind == 3) x.fill(3);
            due.is("size(8)", 1, x.size(8));
            due.granted("undo()", 1, x.undo() ? 1 : 0, x);
            due.is("size(8)", 0, x.size(8));
            due.is("son()", 4, x.son());
            due.is("curate()", 7, x.curate());
            due.is("deep(0, 7)", 6, x.deep(0, 7));
            due.is("size(7)", 0, x.size(7));
            due.refused("undo() again", 0, x.undo() ? 1 : 0, x, 6);
        }
    }

    private static void undoKept() {
        due.term("ACTS: STRIDE, STEP, YEAR, FILL (a CELL that is GONE is there). UNDO: the latest (16 are kept)");
        for (int acts : new int[] {1, 2, 15, 16, 17, 18, 31, 32, 33, 48}) {
            SevenLeague x = landed("land cells 60 son 0 curate 5 gout 0;boots b 2");
            for (int i = 0; i < acts; i++) x.step(0);
            int kept = Math.min(acts, 16);
            due.is("size(8) behind " + acts, kept, x.size(8));
            for (int i = 1; i <= kept; i++) {
                due.granted("undo " + i + " of " + acts, 1, x.undo() ? 1 : 0, x);
                due.is("curate()", 5 + acts - i, x.curate());
                due.is("size(8)", kept - i, x.size(8));
            }
            due.refused("undo, one more", 0, x.undo() ? 1 : 0, x, 6);
            due.is("curate()", 5 + acts - kept, x.curate());
        }
    }

    /** Acts and undoing in turn, over the end of what is kept and back, beside a plain list of where the curate was. */
    private static void undoRing() {
        SevenLeague x = landed("land cells 60 son 0 curate 30 gout 0;boots b 2");
        List<Integer> was = new ArrayList<>();
        int[] acts = {5, 14, 3, 20, 1, 16, 2, 17, 9};
        int[] undone = {3, 9, 3, 10, 6, 16, 1, 0, 17};
        for (int round = 0; round < acts.length; round++) {
            for (int i = 0; i < acts[round]; i++) {
                was.add(x.curate());
                x.step(round % 2);
            }
            while (was.size() > 16) was.remove(0);
            due.is("size(8) in round " + round, was.size(), x.size(8));
            for (int i = 0; i < undone[round]; i++) {
                due.is("undo in round " + round, !was.isEmpty(), x.undo());
                if (!was.isEmpty()) due.is("curate() in round " + round, was.remove(was.size() - 1), x.curate());
            }
            due.is("size(8) behind round " + round, was.size(), x.size(8));
        }
    }

    private static void image() {
        due.term("IMAGES: up to 3; gone back to one, nothing can be undone");
        due.promise(58, "An IMAGE: its number. NONE: 1 (no LAND); 3");
        SevenLeague none = new SevenLeague(), x = landed(Lands.LEAST);
        due.refused("image() without a land", none.image(), none, 1);
        for (int i = 0; i < 3; i++) {
            due.is("size(9)", i, x.size(9));
            due.granted("image()", i, x.image(), x);
            x.step(0);
        }
        for (int i = 0; i < 3; i++) {
            due.refused("image(), a fourth", x.image(), x, 3);
            due.is("size(9)", 3, x.size(9));
        }
        due.is("an image is no act", 3, x.size(8));
        for (int i = 2; i >= 0; i--) {
            due.is("back(" + i + ")", true, x.back(i));
            due.is("the fourth took none's place", i, x.curate());
        }
        due.refused("image() behind back", x.image(), x, 3);
    }

    private static void back() {
        due.promise(59, "All is as by an IMAGE (all IMAGES stay): true; false: 1");
        SevenLeague none = new SevenLeague(), x = landed(Lands.THREE);
        for (int i = -1; i <= 3; i++) due.refused("back(" + i + ") without a land", 0, none.back(i) ? 1 : 0, none, 1);
        for (int count = 0; count <= 3; count++) {
            for (int i : Numbers.outside(0, count - 1)) {
                if (i >= 0 && i < count) continue;
                due.refused("back(" + i + ") of " + count, 0, x.back(i) ? 1 : 0, x, 1);
            }
            due.is("size(8) stays by a refusal", count == 0 ? 0 : 1, x.size(8));
            if (count < 3) {
                if (count > 0) x.back(count - 1);
                x.image();
                x.year();
            }
        }
        SevenLeague y = landed(Lands.THREE);
        y.image();
        y.stride(1, 0);
        y.step(1);
        y.year();
        y.fill(2);
        y.image();
        int[] son = {4, 6}, curate = {7, 6}, years = {0, 1}, gone = {3, 1}, deep = {6, 2};
        for (int times = 0; times < 4; times++) {
            int i = times % 2;
            due.granted("back(" + i + ")", 1, y.back(i) ? 1 : 0, y);
            due.is("son()", son[i], y.son());
            due.is("curate()", curate[i], y.curate());
            due.is("size(7)", years[i], y.size(7));
            due.is("gone()", gone[i], y.gone());
            due.is("deep(0, 7)", deep[i], y.deep(0, 7));
            due.is("images stay", 2, y.size(9));
            due.is("nothing to undo", 0, y.size(8));
            due.refused("undo()", 0, y.undo() ? 1 : 0, y, 6);
            y.year();
            due.is("an act behind it can be undone", true, y.undo());
            due.is("size(7)", years[i], y.size(7));
            y.step(1);
        }
        due.is("image(), the third", 2, y.image());
    }

    // ---- what is told

    private static void led() {
        due.promise(60, "The i-th place, by numbers, that is LOST. NoSuchElementException if there is none such");
        SevenLeague none = new SevenLeague(), least = landed(Lands.LEAST), most = landed(Lands.MOST);
        for (int i = -1; i <= 1; i++) {
            due.is("led(" + i + ") without a land", NO_LED, led(none, i));
            due.is("led(" + i + ") without a place", NO_LED, led(least, i));
        }
        for (int i = 0; i < 6; i++) due.is("led(" + i + ")", i, led(most, i));
        for (int i : Numbers.outside(0, 5)) due.is("led(" + i + ")", NO_LED, led(most, i));
        most.fill(33);
        most.fill(36);
        int[] left = {1, 2, 4, 5};
        for (int i = 0; i < 4; i++) due.is("led(" + i + ")", left[i], led(most, i));
        for (int i : Numbers.outside(0, 3)) due.is("led(" + i + ")", NO_LED, led(most, i));
        SevenLeague there = landed("land cells 8 son 0 curate 0 gout 0;boots b 2;place p at 2 folk 1");
        for (int i = -1; i <= 1; i++) due.is("led(" + i + "), no place lost", NO_LED, led(there, i));
    }

    private static void size() {
        due.promise(61, "NONE for others; 0 for what there isn't");
        SevenLeague none = new SevenLeague(), least = landed(Lands.LEAST);
        int[] sizes = {8, 0, 1, 0, 0, 0, 0, 0, 0, 0, 0};
        for (int what = 0; what <= 10; what++) {
            due.is("size(" + what + ") without a land", 0, none.size(what));
            due.is("size(" + what + ")", sizes[what], least.size(what));
        }
        for (int what : Numbers.outside(0, 10)) {
            due.is("size(" + what + ") without a land", -1, none.size(what));
            due.is("size(" + what + ")", -1, least.size(what));
        }
        none.feed(0, 0, 0, 0, 0);
        due.is("size(10) without a land", 20, none.size(10));
    }

    private static void sizeAtMost() {
        due.promise(61, "0 cells, 1 gout, 2 boots, 3 places, 4 strides as told, 5 unsure ones, 6 seen, 7 years gone by NOW, 8 ACTS that "
                + "can be undone, 9 IMAGES, 10 bytes of THE TAPE");
        SevenLeague x = landed(Lands.MOST);
        for (int i = 0; i < 3; i++) x.image();
        x.year();
        x.year();
        for (int i = 0; i < 20; i++) x.step(i % 2 == 0 ? 1 : 0);
        for (int i = 0; i < 46; i++) x.feed(0, 0, 0, 0, 0);
        int[] sizes = {60, 100, 3, 6, 8, 4, 6, 2, 16, 3, 900};
        for (int what = 0; what <= 10; what++) due.is("size(" + what + ")", sizes[what], x.size(what));
        x.stride(0, 0);
        due.is("size(4), as told", 8, x.size(4));
        x.back(0);
        due.is("size(7) behind back", 0, x.size(7));
        due.is("size(8) behind back", 0, x.size(8));
        due.is("size(9) behind back", 3, x.size(9));
        due.is("size(10) behind back", 900, x.size(10));
    }

    private static void trouble() {
        due.term("0 it wasn't; 1 there is none such; 2 a number; 3 no room; 4 a FAULT; 5 not so; 6 there is none");
        due.promise(62, "TROUBLE");
        SevenLeague x = new SevenLeague();
        due.is("trouble() of a new object", 0, x.trouble());
        due.refused("1", x.son(), x, 1);
        x = landed(Lands.LEAST);
        due.is("0", 0, x.trouble());
        for (int i = 0; i < 3; i++) x.image();
        due.refused("2", x.step(2), x, 2);
        due.refused("3", x.image(), x, 3);
        due.refused("4", x.land(0), x, 4);
        due.refused("5", x.step(1), x, 5);
        due.refused("6", 0, x.undo() ? 1 : 0, x, 6);
        due.is("trouble() again", 6, x.trouble());
        due.granted("0", 0, x.son(), x);
    }

    private static void troubleStays() {
        due.term("IV. TROUBLE of the latest call that may be refused (those of which a number is told here)");
        for (int i = 0; i < 46; i++) {
            SevenLeague x = landed(Lands.LEAST);
            for (int j = 0; j < i; j++) x.feed(0, 0, 0, 0, 0);
            x.fill(0);
            // feed, refused or not, where, fault, size, led tell no number.
            due.is("feed", i == 45 ? -1 : 20 * i + 20, x.feed(0, 0, 0, 0, 0));
            due.is("trouble() behind feed", 5, x.trouble());
            due.is("where()", -1, x.where());
            due.is("fault()", 0, x.fault());
            due.is("size(11)", -1, x.size(11));
            due.is("led(0)", NO_LED, led(x, 0));
            due.is("trouble() behind all these", 5, x.trouble());
        }
        SevenLeague most = landed(Lands.MOST);
        most.fill(0);
        due.is("led(0)", 0, led(most, 0));
        due.is("trouble() behind led", 5, most.trouble());
    }
}
