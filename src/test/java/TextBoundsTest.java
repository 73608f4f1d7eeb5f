import java.util.ArrayList;
import java.util.List;

/** The bounds of a land's text, sentence by sentence: term I, promises 2 to 5. */
public final class TextBoundsTest {
    private static final Due due = new Due();
    private static final Texts texts = new Texts(due);
    private static final String LAND = "land cells 9 son 4 curate 0 gout 0";
    private static final String BOOTS = LAND + ";boots b 3";
    private static final String STRIDE = BOOTS + ";stride b up";
    private static final String[] HEADS = {"land", "ground", "boots", "place", "stride", "unsure", "seen"};

    public static void main(String[] args) {
        tape();
        feedOrder();
        feedFull();
        otherBytes();
        words();
        wholes();
        marks();
        landLine();
        ground();
        boots();
        place();
        stride();
        unsure();
        seen();
        names();
        formOfTokens();
        faults();
        ofOnePlace();
        land();
        landsInTurn();
        fault();
        where();
        due.had(2, 5);
        due.end();
    }

    private static String blanks(int count) {
        return " ".repeat(count);
    }

    // ---- the tape

    /** A land that fills the tape to its last byte. */
    private static String longest() {
        return LAND + ";" + blanks(900 - LAND.length() - 10) + "boots b 3";
    }

    private static void tape() {
        due.term("I. THE TEXT of a LAND (THE TAPE has 900 bytes");
        due.is("length", 900, longest().length());
        texts.good(longest());
        SevenLeague x = new SevenLeague();
        due.is("feed", 900, Tapes.feed(x, longest()));
        due.refused("land(901)", x.land(901), x, 2);
        due.refused("land(899), the last token cut off", x.land(899), x, 4);
        due.is("fault()", 1, x.fault());
        due.is("where()", 899, x.where());
        texts.badEnd(blanks(900), 1);
        texts.bad(LAND + blanks(899 - LAND.length()) + "%", 1, 899);
        texts.badEnd(LAND + blanks(900 - LAND.length()), 6);
    }

    private static void feedOrder() {
        due.promise(2, "Twenty bytes come behind THE TAPE, of each number the highest first");
        for (int sign : new int[] {'%', 0, 127, 128, 255}) {
            for (int at = 0; at < 60; at++) {
                SevenLeague x = new SevenLeague();
                StringBuilder text = new StringBuilder(blanks(60));
                text.setCharAt(at, (char) sign);
                Tapes.feed(x, text.toString());
                x.land(60);
                due.is("where() of a wrong byte " + sign + " at " + at, at, x.where());
            }
        }
        SevenLeague x = new SevenLeague();
        due.is("feed of -1 five times", 20, x.feed(-1, -1, -1, -1, -1));
        int least = Integer.MIN_VALUE, most = Integer.MAX_VALUE;
        due.is("feed of the least numbers", 40, x.feed(least, least, least, least, least));
        due.is("feed of the greatest numbers", 60, x.feed(most, most, most, most, most));
    }

    private static void feedFull() {
        due.promise(2, "how many it has; NONE, and none comes, if there would be more than 900");
        SevenLeague x = new SevenLeague();
        String text = longest();
        for (int i = 0; i < 45; i++) {
            due.is("bytes ahead of feed " + i, 20 * i, x.size(10));
            due.is("feed " + i, 20 * i + 20, Tapes.feed(x, text.substring(20 * i, 20 * i + 20)));
        }
        for (int i = 0; i < 3; i++) {
            due.is("feed of a full tape", -1, Tapes.feed(x, "%%%%%%%%%%%%%%%%%%%%"));
            due.is("bytes", 900, x.size(10));
        }
        due.is("land, none of the refused bytes being in it", 9, x.land(900));
        due.is("bytes behind land", 0, x.size(10));
        due.is("feed behind land", 20, Tapes.feed(x, BOOTS.substring(0, 20)));
    }

    // ---- tokens

    private static void otherBytes() {
        due.term("blanks, 32, part TOKENS and mean nothing else");
        for (int b = 0; b < 256; b++) {
            String text = LAND + (char) b + ";boots b 3";
            boolean digit = b >= '0' && b <= '9';
            if (b == 32 || digit) texts.good(text);
            else texts.bad(text, 1, LAND.length() + (b == ';' ? 1 : 0));
            if (b == 32) texts.good((char) b + BOOTS);
            else texts.bad((char) b + BOOTS, 1, 0);
            if (b != 32 && b != ';' && !digit) texts.bad(BOOTS + (char) b, 1, BOOTS.length());
        }
        texts.good(blanks(1) + BOOTS.replace(" ", "   ").replace(";", "  ;  ") + blanks(9));
        texts.bad("la nd cells 9", 1, 0);
        texts.bad("land cel ls 9", 1, 5);
        texts.bad("land cells 1 0 son 4", 4, 11);
        texts.bad("land cells 9 0 son 4", 1, 13);
        texts.good("land cells9son4curate0gout0;boots b3;stride b up;unsure1;seen4there");
    }

    private static void words() {
        due.term("TOKENS: WORDS of 1 to 8 small letters that stand together");
        for (int letters = 1; letters <= 8; letters++) {
            String name = "abcdefgh".substring(0, letters);
            texts.good(LAND + ";boots " + name + " 3;stride " + name + " up");
        }
        for (int letters : new int[] {9, 10, 16, 17, 26, 256, 264}) texts.badLast(LAND + ";boots " + "z".repeat(letters), 1);
        for (int letters : new int[] {9, 16, 264}) texts.badLast(LAND + ";boots zzzzzzzz 3;stride " + "z".repeat(letters), 1);
        texts.bad("landcells 9 son 4", 1, 0);
        for (char c : new char[] {'a', 'b', 'y', 'z'}) texts.good(LAND + ";boots " + c + " 3;stride " + c + " up");
        for (char c : new char[] {'`', '{', 'A', 'B', 'Y', 'Z', '@', '[', '_', '-'}) {
            texts.bad(LAND + ";boots " + c + " 3", 1, LAND.length() + 7);
            texts.bad(LAND + ";boots a" + c + " 3", 1, LAND.length() + 8);
        }
        String alike = LAND + ";boots abcdefgh 3;boots abcdefgi 2;boots abcdefg 4";
        due.is("the last letter counts", 6, texts.good(alike + ";stride abcdefgi up").son());
        due.is("a name that another one goes on from", 0, texts.good(alike + ";stride abcdefg down").son());
        texts.badLast(alike + ";stride abcdef", 2);
        texts.badLast(alike + ";stride bbcdefgh", 2);
    }

    private static void wholes() {
        due.term("WHOLES of 1 to 3 digits that do");
        due.is("one digit", 9, texts.good(BOOTS).size(0));
        due.is("two digits", 10, texts.good("land cells 10 son 4 curate 0 gout 0;boots b 3").size(0));
        due.is("three digits", 100, texts.good("land cells 9 son 4 curate 0 gout 100;boots b 3").size(1));
        due.is("noughts ahead", 9, texts.good("land cells 009 son 04 curate 000 gout 00;boots b 003").size(0));
        texts.badLast("land cells 999", 4);
        texts.badLast("land cells 000", 4);
        for (String digits : new String[] {"0009", "1000", "9999", "00009", "4294967305", "18446744073709551625", "0".repeat(300) + "9"}) {
            texts.badLast("land cells " + digits, 1);
        }
        for (char c : new char[] {'/', ':', '-', '+', '.', ','}) {
            texts.bad("land cells " + c + "9 son 4", 1, 11);
            texts.bad("land cells 9" + c + " son 4", 1, 12);
        }
        for (int d = 0; d <= 9; d++) due.is("gout 1" + d, 10 + d, texts.good("land cells 9 son 4 curate 0 gout 1" + d + ";boots b 3").size(1));
    }

    private static void marks() {
        due.term("single ones of ;): LINE {; LINE}. LINE, one of:");
        texts.badEnd("", 1);
        texts.badEnd(" ", 1);
        texts.bad(";", 1, 0);
        texts.bad(";" + BOOTS, 1, 0);
        texts.bad(LAND + ";;boots b 3", 1, LAND.length() + 1);
        texts.bad(LAND + "; ;boots b 3", 1, LAND.length() + 2);
        texts.badEnd(BOOTS + ";", 1);
        texts.badEnd(BOOTS + ";   ", 1);
        texts.badEnd(LAND + ";", 1);
        texts.badEnd(LAND, 6);
        texts.good(BOOTS);
        texts.bad(LAND + " boots b 3", 1, LAND.length() + 1);
        texts.bad(BOOTS + " 3", 1, BOOTS.length() + 1);
    }

    // ---- lines

    private static String landOf(int cells, int son, int curate, int gout) {
        return "land cells " + cells + " son " + son + " curate " + curate + " gout " + gout;
    }

    private static void landLine() {
        due.term("CELLS are WHOLES, 0 .. cells less 1");
        due.term("land cells WHOLE son WHOLE curate WHOLE gout WHOLE (8 .. 60; a CELL each; 0 .. 100 in a hundred), ahead of all others");
        for (int cells : new int[] {8, 9, 59, 60}) {
            due.is("cells", cells, texts.good(landOf(cells, 0, 0, 0) + ";boots b 2").size(0));
            due.is("son at the last one", cells - 1, texts.good(landOf(cells, cells - 1, 0, 0) + ";boots b 2").son());
            due.is("son at 0", 0, texts.good(landOf(cells, 0, cells - 1, 0) + ";boots b 2").son());
            due.is("curate at the last one", cells - 1, texts.good(landOf(cells, 0, cells - 1, 0) + ";boots b 2").curate());
            due.is("curate at 0", 0, texts.good(landOf(cells, cells - 1, 0, 0) + ";boots b 2").curate());
            for (int off : new int[] {cells, cells + 1, 60, 64, 255, 256, 999}) {
                if (off < cells) continue;
                texts.badLast("land cells " + cells + " son " + off, 4);
                texts.badLast("land cells " + cells + " son 0 curate " + off, 4);
            }
        }
        for (int cells : new int[] {0, 1, 6, 7, 61, 62, 64, 264, 316, 999}) texts.badLast("land cells " + cells, 4);
        for (int gout : new int[] {0, 1, 50, 99, 100}) due.is("gout", gout, texts.good(landOf(9, 4, 0, gout) + ";boots b 2").size(1));
        for (int gout : new int[] {101, 102, 256, 999}) texts.badLast(landOf(9, 4, 0, gout), 4);
        for (int i = 1; i < HEADS.length; i++) {
            texts.bad(HEADS[i], 6, 0);
            texts.bad(HEADS[i] + " b 3;" + LAND, 6, 0);
        }
    }

    private static void groundIs(String line, int cells, int sort, int from, int to) {
        SevenLeague x = texts.good(landOf(cells, 0, 0, 0) + ";boots b 2;" + line);
        for (int k = 0; k < cells; k++) due.is(line + ", cell " + k, k >= from && k <= to ? sort : 0, x.cell(k, 0));
    }

    private static void ground() {
        due.term("ground SORT WHOLE WHOLE (SORT: heath, bog, or wood; from a CELL to one, itself or behind it; later ones over earlier "
                + "ones; up to 6");
        for (int cells : new int[] {8, 60}) {
            groundIs("ground bog 0 0", cells, 1, 0, 0);
            groundIs("ground wood " + (cells - 1) + " " + (cells - 1), cells, 2, cells - 1, cells - 1);
            groundIs("ground wood 0 " + (cells - 1), cells, 2, 0, cells - 1);
            groundIs("ground bog 3 4", cells, 1, 3, 4);
            groundIs("ground heath 0 " + (cells - 1), cells, 0, 0, 0);
            String head = landOf(cells, 0, 0, 0) + ";ground bog ";
            texts.badLast(head + cells, 4);
            texts.badLast(head + "0 " + cells, 4);
            texts.badLast(head + (cells - 1) + " " + cells, 4);
            texts.badLast(head + (cells - 1) + " " + (cells - 2), 4);
            texts.badLast(head + "1 0", 4);
        }
        String over = BOOTS + ";ground wood 0 8;ground bog 2 6;ground heath 3 5;ground wood 4 4;ground bog 6 6";
        int[] laid = {2, 2, 1, 0, 2, 0, 1, 2, 2};
        SevenLeague five = texts.good(over);
        for (int k = 0; k < 9; k++) due.is("later ones over earlier ones, cell " + k, laid[k], five.cell(k, 0));
        due.is("a sixth one", 2, texts.good(over + ";ground wood 6 6").cell(6, 0));
        texts.badLast(over + ";ground wood 6 6;ground", 5);
        texts.badLast(over + ";ground wood 6 6;stride b up;ground", 5);
        due.term("Cells no ground is told of are heath; no ground is told behind a stride");
        for (int k = 0; k < 9; k++) due.is("no ground told, cell " + k, 0, texts.good(BOOTS).cell(k, 0));
        due.is("right ahead of a stride", 2, texts.good(BOOTS + ";ground bog 5 5;stride b up").cell(5, 1));
        texts.badLast(STRIDE + ";ground", 8);
        texts.badLast(STRIDE + ";seen 4 there;unsure 1;place p at 0 folk 1;boots c 2;ground", 8);
    }

    private static void boots() {
        due.term("boots NAME WHOLE (a stride of so many cells, 2 .. 9; up to 3");
        for (int length = 2; length <= 9; length++) due.is("boots", length, texts.good(LAND + ";boots b " + length).boots(0));
        for (int length : new int[] {0, 1, 10, 11, 258, 999}) texts.badLast(LAND + ";boots b " + length, 4);
        for (int count = 1; count <= 3; count++) {
            String text = LAND + ";boots a 2;boots b 3;boots c 4".substring(0, 10 * count);
            due.is("boots of " + count, count, texts.good(text).size(2));
        }
        texts.badLast(LAND + ";boots a 2;boots b 3;boots c 4;boots", 5);
        texts.badEnd(LAND + ";place p at 0 folk 1", 6);
    }

    private static void place() {
        due.term("place NAME at WHOLE folk WHOLE (a CELL at which no place is; 1 .. 99; up to 6");
        for (int cells : new int[] {8, 60}) {
            String head = landOf(cells, 0, 0, 0) + ";boots b 2;place p at ";
            due.is("place at 0", 0, texts.good(head + "0 folk 1").place(0, 0));
            due.is("place at the last one", cells - 1, texts.good(head + (cells - 1) + " folk 1").place(0, 0));
            texts.badLast(head + cells, 4);
            texts.badLast(head + 999, 4);
        }
        for (int folk : new int[] {1, 2, 98, 99}) due.is("folk", folk, texts.good(BOOTS + ";place p at 0 folk " + folk).place(0, 1));
        for (int folk : new int[] {0, 100, 101, 257, 999}) texts.badLast(BOOTS + ";place p at 0 folk " + folk, 4);
        String text = BOOTS;
        for (int i = 0; i < 6; i++) {
            text += ";place p" + (char) ('a' + i) + " at " + i + " folk 99";
            due.is("places", i + 1, texts.good(text).size(3));
            for (int k = 0; k <= i && i < 5; k++) texts.badLast(text + ";place q at " + k, 3);
        }
        texts.badLast(text + ";place", 5);
    }

    private static void stride() {
        due.term("stride BOOTS WAY (made by the son, in that order, ahead of all; WAY: up, or down; up to 8");
        String text = BOOTS;
        for (int i = 0; i < 8; i++) {
            due.is("strides", i, texts.good(text).size(4));
            due.is("son", i % 2 == 0 ? 4 : 7, texts.good(text).son());
            text += i % 2 == 0 ? ";stride b up" : ";stride b down";
        }
        due.is("eight strides", 8, texts.good(text).size(4));
        texts.badLast(text + ";stride", 5);
        texts.badLast(text + ";seen 4 there;stride", 5);
        // Without the first one the last one would lead out of the land.
        String order = "land cells 10 son 1 curate 0 gout 0;boots b 3;boots c 5";
        due.is("in that order", 1, texts.good(order + ";stride b up;stride c up;stride c down;stride b down").son());
        texts.badLast(order + ";stride c up;stride c down;stride b down", 7);
        due.term("7 STRIDE: one told that he can't make, all told ahead of it being made; at its WAY");
        for (int length = 2; length <= 9; length++) {
            for (int cells : new int[] {10, 60}) {
                due.is("to the last cell", cells - 1, texts.good(landOf(cells, cells - 1 - length, 0, 0) + ";boots b " + length + ";stride b up").son());
                due.is("to cell 0", 0, texts.good(landOf(cells, length, 0, 0) + ";boots b " + length + ";stride b down").son());
                texts.badLast(landOf(cells, cells - length, 0, 0) + ";boots b " + length + ";stride b up", 7);
                texts.badLast(landOf(cells, length - 1, 0, 0) + ";boots b " + length + ";stride b down", 7);
            }
        }
        String two = "land cells 12 son 5 curate 0 gout 0;boots a 4;boots b 3;stride a up";
        texts.badLast(two + ";stride b down", 7);
        due.is("to the cell that he left", 5, texts.good(two + ";stride a down").son());
    }

    private static void unsure() {
        due.term("unsure WHOLE (which stride may have been the other way, 1 the first one, of those told by then; each once; up to 4");
        texts.badLast(BOOTS + ";unsure 0", 4);
        texts.badLast(BOOTS + ";unsure 1", 4);
        String text = BOOTS;
        for (int told = 1; told <= 8; told++) {
            text += told % 2 == 1 ? ";stride b up" : ";stride b down";
            due.is("the first one", 1, texts.good(text + ";unsure 1").size(5));
            due.is("the latest one", 1, texts.good(text + ";unsure " + told).size(5));
            texts.badLast(text + ";unsure 0", 4);
            texts.badLast(text + ";unsure " + (told + 1), 4);
            texts.badLast(text + ";unsure 999", 4);
        }
        texts.bad(STRIDE + ";unsure 2;stride b down", 4, STRIDE.length() + 8);
        for (int i = 1; i <= 4; i++) texts.badLast(text + ";unsure 1;unsure 4;unsure 3;unsure " + (i == 2 ? 1 : i), 3);
        due.is("four", 4, texts.good(text + ";unsure 8;unsure 1;unsure 7;unsure 2").size(5));
        texts.badLast(text + ";unsure 8;unsure 1;unsure 7;unsure 2;unsure", 5);
    }

    private static void seen() {
        due.term("or seen WHOLE HOW (a CELL behind all strides told; HOW: gone, or there; each once; up to 6");
        for (int cells : new int[] {8, 60}) {
            String head = landOf(cells, 0, 0, 0) + ";boots b 2;seen ";
            due.is("seen 0", 1, texts.good(head + "0 there").size(6));
            due.is("seen the last one", 1, texts.good(head + (cells - 1) + " gone").size(6));
            texts.badLast(head + cells, 4);
            texts.badLast(head + 999, 4);
        }
        String text = BOOTS;
        for (int i = 0; i < 6; i++) {
            text += ";seen " + i + (i % 2 == 0 ? " gone" : " there");
            due.is("seen", i + 1, texts.good(text).size(6));
            for (int k = 0; k <= i && i < 5; k++) texts.badLast(text + ";seen " + k, 3);
        }
        texts.badLast(text + ";seen", 5);
        due.is("told ahead of the stride, but of what is behind it", -2, texts.good(BOOTS + ";seen 5 gone;stride b up").judge());
        due.is("told between strides", -2, texts.good(BOOTS + ";stride b up;seen 3 gone;stride b down;stride b down").judge());
    }

    private static void names() {
        due.term("NAMES are WORDS but land, ground, boots, place, stride, unsure, seen; each told once, ahead of its use");
        for (String head : HEADS) {
            texts.badLast(LAND + ";boots " + head, 1);
            texts.badLast(BOOTS + ";place " + head, 1);
            texts.badLast(BOOTS + ";stride " + head, 1);
        }
        for (String word : new String[] {"cells", "son", "curate", "gout", "heath", "bog", "wood", "at", "folk", "up", "down", "gone", "there"}) {
            due.is("boots of that name", 7, texts.good(LAND + ";boots " + word + " 3;place p at 0 folk 1;stride " + word + " up").son());
            texts.good(BOOTS + ";place " + word + " at 0 folk 1");
        }
        String both = BOOTS + ";place p at 0 folk 1";
        texts.badLast(both + ";boots b", 3);
        texts.badLast(both + ";boots p", 3);
        texts.badLast(both + ";place b", 3);
        texts.badLast(both + ";place p", 3);
        texts.badLast(both + ";stride c", 2);
        texts.badLast(both + ";stride p", 2);
        texts.bad(LAND + ";stride b up;boots b 3", 2, LAND.length() + 8);
        due.is("told right ahead", 7, texts.good(LAND + ";boots b 3;stride b up").son());
        // Nine names, the most that there is room for; the last of them is another one's sort, the first one isn't.
        String nine = LAND + ";boots ba 2;boots bb 3;boots bc 4";
        for (int i = 0; i < 6; i++) nine += ";place p" + (char) ('a' + i) + " at " + i + " folk 1";
        due.is("the third boots", 8, texts.good(nine + ";stride bc up").son());
        String placesFirst = LAND + nine.substring(LAND.length() + 33) + nine.substring(LAND.length(), LAND.length() + 33);
        due.is("the third boots, the ninth name", 8, texts.good(placesFirst + ";stride bc up").son());
        texts.badLast(nine + ";stride pf", 2);
        texts.badLast(nine + ";stride pg", 2);
    }

    // ---- faults

    /** Each token of a land in which every sort of line stands: K a fixed word, W a number, N a new name, B a name told, ; itself. */
    private static final String[] TOKENS = ("Kland Kcells W9 Kson W4 Kcurate W0 Kgout W0 ;; Kboots Nb W3 ;; Kground Kbog W2 W3 ;; "
            + "Kplace Np Kat W0 Kfolk W1 ;; Kstride Bb Kup ;; Kunsure W1 ;; Kseen W4 Kthere").split(" ");

    private static String joined(int count, String last) {
        StringBuilder text = new StringBuilder();
        for (int i = 0; i < count; i++) text.append(TOKENS[i].substring(1)).append(' ');
        return text.append(last).toString();
    }

    private static void formOfTokens() {
        due.term("1 FORM: the first byte that begins no TOKEN, or TOKEN with which no LAND goes on (the end: its place)");
        List<Integer> lineEnds = new ArrayList<>();
        for (int i = 0; i <= TOKENS.length; i++) if (i == TOKENS.length || TOKENS[i].equals(";;")) lineEnds.add(i);
        boolean bootsTold = false;
        for (int i = 0; i <= TOKENS.length; i++) {
            String cut = joined(i, "");
            if (!lineEnds.contains(i)) texts.badEnd(cut, 1);
            else if (bootsTold) texts.good(cut);
            else texts.badEnd(cut, 6);
            bootsTold |= i >= 12;
            texts.bad(joined(i, "%"), 1, cut.length());
            texts.bad(joined(i, "ninewords"), 1, cut.length());
            texts.bad(joined(i, "1234"), 1, cut.length());
            if (!lineEnds.contains(i)) texts.bad(joined(i, ";"), 1, cut.length());
            char kind = i < TOKENS.length ? TOKENS[i].charAt(0) : ';';
            if (kind != 'N') texts.bad(joined(i, "zz"), kind == 'B' ? 2 : 1, cut.length());
            texts.bad(joined(i, "999"), kind == 'W' ? 4 : 1, cut.length());
            // A word with one letter that isn't its own, one letter more or less.
            String word = kind == 'K' ? TOKENS[i].substring(1) : "";
            for (int at = 0; at < word.length(); at++) {
                texts.bad(joined(i, word.substring(0, at) + "x" + word.substring(at + 1)), 1, cut.length());
                texts.bad(joined(i, word.substring(0, at)) + (at == 0 ? "x" : ""), 1, cut.length());
            }
            if (kind == 'K') texts.bad(joined(i, word + "s"), 1, cut.length());
            // Words of other lines and of other places in the same line.
            for (String other : new String[] {"cells", "son", "curate", "gout", "bog", "at", "folk", "up", "there"}) {
                boolean fits = kind == 'N' || word.equals(other);
                if (!fits) texts.bad(joined(i, other), kind == 'B' ? 2 : 1, cut.length());
            }
        }
    }

    private static void faults() {
        due.term("FAULTS, the first that is met from the left, of one place the least number");
        // Faults from the right to the left: each one that comes ahead of the others is told.
        String[] pieces = {";stride b up;stride b up", ";boots b 3", ";boots c 10", ";stride zz up", ";;"};
        int[] numbers = {7, 3, 4, 2, 1};
        int[] places = {22, 7, 9, 8, 1};
        String tail = "";
        for (int i = 0; i < pieces.length; i++) {
            tail = pieces[i] + tail;
            texts.bad(BOOTS + tail, numbers[i], BOOTS.length() + places[i]);
        }
        due.term("2 a NAME that isn't told, or is of another sort than must stand there; at it");
        texts.badLast(BOOTS + ";stride bb", 2);
        texts.badLast(BOOTS + ";place p at 1 folk 1;stride p", 2);
        due.term("3 a NAME told again; at it; a CELL at which a place is, that was seen already, a stride unsure already; at it; a "
                + "second land: at that WORD");
        texts.badLast(BOOTS + ";place b", 3);
        texts.badLast(BOOTS + ";place p at 8 folk 1;place q at 8", 3);
        texts.badLast(BOOTS + ";seen 8 gone;seen 8", 3);
        texts.badLast(STRIDE + ";unsure 1;unsure 1", 3);
        texts.badLast(LAND + ";land", 3);
        texts.badLast(STRIDE + ";land", 3);
        due.term("4 a WHOLE out of bounds; at it");
        texts.badLast("land cells 7", 4);
        due.term("5 MANY: a LINE more of its sort than there is room for, at its first WORD");
        texts.badLast(BOOTS + ";boots c 3;boots d 3;boots", 5);
        texts.bad(BOOTS + ";boots c 3;boots d 3;boots b 99", 5, BOOTS.length() + 21);
        due.term("6 LACKS: any LINE ahead of the land; at its WORD; at the end: no boots");
        texts.bad(" seen 4 gone;" + BOOTS, 6, 1);
        texts.badEnd(LAND + ";ground bog 1 1", 6);
        texts.badEnd(LAND + ";seen 1 there ", 6);
        due.term("8 LATE: a ground behind a stride; at its WORD");
        texts.badLast(STRIDE + ";ground", 8);
        texts.bad(STRIDE + "; ground bog 1 1", 8, STRIDE.length() + 2);
    }

    private static void ofOnePlace() {
        due.term("of one place the least number");
        texts.badEnd(LAND + ";", 1);
        texts.badEnd("", 1);
        texts.badLast(BOOTS + ";ground bog 1 1".repeat(6) + ";stride b up;ground", 5);
        texts.badLast(BOOTS + ";ground bog 1 1".repeat(5) + ";stride b up;ground", 8);
        texts.badLast("land cells 1234", 1);
        texts.badLast(BOOTS + ";stride seen", 1);
    }

    // ---- promises 3 to 5

    private static void land() {
        due.promise(3, "The first n bytes of THE TAPE (it is empty then) are the LAND from now on");
        SevenLeague x = new SevenLeague();
        Tapes.feed(x, BOOTS + "%%%%%%%%%%%%%%%%%%%%");
        due.is("land of the first bytes alone", 9, x.land(BOOTS.length()));
        due.is("tape", 0, x.size(10));
        due.refused("land(1) of an empty tape", x.land(1), x, 2);
        due.refused("land(0) of an empty tape", x.land(0), x, 4);
        due.is("where()", 0, x.where());
        due.is("feed", 20, Tapes.feed(x, "%%%%%%%%%%%%%%%%%%%%"));
        due.refused("land(20)", x.land(20), x, 4);
        due.is("tape behind a fault", 0, x.size(10));
        due.promise(3, "NONE: 2 (THE TAPE stays); 4 (the LAND stays)");
        Tapes.feed(x, BOOTS);
        int bytes = x.size(10);
        for (int n : Numbers.outside(0, bytes)) {
            due.refused("land(" + n + ")", x.land(n), x, 2);
            due.is("tape behind land(" + n + ")", bytes, x.size(10));
        }
        due.is("land(all bytes), blanks at their end", 9, x.land(bytes));
        due.promise(3, "(strides told are made; no year gone by; nothing to undo, no IMAGES): how many cells");
        x = filled();
        Tapes.feed(x, "boots");
        due.refused("land(5)", x.land(5), x, 4);
        int[] kept = {9, 0, 1, 0, 1, 0, 0, 1, 3, 3, 0};
        for (int what = 0; what <= 10; what++) due.is("size(" + what + ") behind a fault", kept[what], x.size(what));
        due.is("son() behind a fault", 4, x.son());
        due.is("curate() behind a fault", 1, x.curate());
        Tapes.feed(x, "land cells 8 son 7 curate 7 gout 9;boots b 2;stride b down");
        due.is("land", 8, x.land(58));
        int[] fresh = {8, 9, 1, 0, 1, 0, 0, 0, 0, 0, 0};
        for (int what = 0; what <= 10; what++) due.is("size(" + what + ") behind land", fresh[what], x.size(what));
        due.is("son(), the stride told being made", 5, x.son());
        due.is("curate()", 7, x.curate());
        due.is("undo()", false, x.undo());
        for (int i = 0; i < 3; i++) due.is("back(" + i + ")", false, x.back(i));
        due.is("gone()", 1, x.gone());
    }

    /** Lands told one behind the other to one object, with faults between: each is as if it were told to a new one. */
    private static void landsInTurn() {
        due.promise(3, "are the LAND from now on");
        String[] all = {Lands.MOST, Lands.LEAST, Lands.THREE, Lands.LEAST, Lands.LEAPT, Lands.MOST, Lands.WOOD, STRIDE, Lands.MOST,
            Lands.THREE, Lands.LEAST, Lands.LEAST, Lands.MOST, Lands.MOST, BOOTS, STRIDE, Lands.LEAST, Lands.MOST,
            Lands.LEAST.replace("b 2", "b 3"), Lands.LEAST, Lands.MOST.replace("99", "7").replace("41 there", "41 gone"),
            Lands.MOST.replace("99", "8").replace("40 gone", "40 there"), LAND + ";place b at 5 folk 5;boots p 3;stride p up",
            LAND + ";place c at 5 folk 5;boots b 2;stride b up", BOOTS};
        for (int faults = 0; faults <= 2; faults++) {
            // In every other run only every other land is asked of: what was found out of the last but one must be forgotten.
            for (int asked = 1; asked <= 2; asked++) {
                SevenLeague x = new SevenLeague();
                for (int i = 0; i < all.length; i++) {
                    for (int j = 0; j < faults; j++) {
                        Tapes.feed(x, Lands.MOST + ";");
                        due.refused("land with a fault", x.land(Lands.MOST.length() + 1), x, 4);
                    }
                    Tapes.feed(x, all[i]);
                    due.is("land of '" + all[i] + "'", true, x.land(all[i].length()) > 0);
                    if (i % asked == 0) alike(x, all[i]);
                }
            }
        }
        SevenLeague x = texts.good(BOOTS);
        for (int i = 0; i < 3; i++) {
            String text = LAND + ";place b at 5 folk 5;boots p 3;stride b";
            Tapes.feed(x, text);
            due.refused("land with a stride of the last one's boots", x.land(text.length()), x, 4);
            due.is("fault()", 2, x.fault());
        }
    }

    private static void alike(SevenLeague x, String text) {
        List<String> want = Probe.asking(Tapes.landed(text)), got = Probe.asking(x);
        due.is("as many answers", want.size(), got.size());
        for (int i = 0; i < Math.min(want.size(), got.size()); i++) {
            due.is("'" + got.get(i) + "' is '" + want.get(i) + "' of '" + text + "'", true, want.get(i).equals(got.get(i)));
        }
        x.year();
        x.image();
    }

    /** A land with acts, a year and all images. */
    private static SevenLeague filled() {
        SevenLeague x = texts.good(STRIDE);
        x.stride(0, 1);
        x.year();
        x.step(0);
        for (int i = 0; i < 3; i++) x.image();
        return x;
    }

    private static void fault() {
        due.promise(4, "The FAULT of the latest land() not refused by 2; 0 without one");
        SevenLeague x = new SevenLeague();
        due.is("fault() of a new object", 0, x.fault());
        x.land(1);
        due.is("fault() behind a refusal by 2", 0, x.fault());
        String[] bad = {"%", LAND + ";stride b", BOOTS + ";boots b", "land cells 7", BOOTS + ";boots c 2;boots d 2;boots", "seen",
            BOOTS + ";stride b up;stride b up", STRIDE + ";ground"};
        for (int number = 1; number <= 8; number++) {
            Tapes.feed(x, bad[number - 1]);
            due.refused("land", x.land(bad[number - 1].length()), x, 4);
            due.is("fault()", number, x.fault());
            x.land(1);
            x.land(-1);
            x.son();
            x.undo();
            due.is("fault() behind others", number, x.fault());
        }
        Tapes.feed(x, BOOTS);
        x.land(BOOTS.length());
        due.is("fault() behind a good one", 0, x.fault());
    }

    private static void where() {
        due.promise(5, "Its place, if the latest call that may be refused was by 4; NONE else");
        SevenLeague x = new SevenLeague();
        due.is("where() of a new object", -1, x.where());
        for (int at : new int[] {0, 1, 19, 20, 899}) {
            Tapes.feed(x, blanks(at) + "%");
            x.land(at + 1);
            due.is("where()", at, x.where());
            x.fault();
            x.trouble();
            x.size(0);
            x.where();
            x.feed(0, 0, 0, 0, 0);
            due.is("where() behind calls that tell no number", at, x.where());
            due.refused("land(901)", x.land(901), x, 2);
            due.is("where() behind a refusal by 2", -1, x.where());
            x.land(0);
            due.is("where() of nothing", 0, x.where());
            x.son();
            due.is("where() behind a refusal by 1", -1, x.where());
            x.land(0);
            x.undo();
            due.is("where() behind a refusal by 6", -1, x.where());
        }
        Tapes.feed(x, blanks(900));
        x.land(900);
        due.is("where(), the farthest end", 900, x.where());
        Tapes.feed(x, BOOTS);
        x.land(BOOTS.length());
        due.is("where() behind a good land", -1, x.where());
        x.land(0);
        x.leads(0, 0);
        due.is("where() behind an answer", -1, x.where());
    }
}
