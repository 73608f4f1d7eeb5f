/** The text of a land: its tokens, its lines, its faults and their places (term I; promises 2 to 5). */
public final class TextTest {
    private static final Due due = new Due();
    private static final Texts texts = new Texts(due);
    private static final String LAND = "land cells 9 son 4 curate 0 gout 0";
    private static final String BOOTS = LAND + ";boots b 3";
    private static final String STRIDE = BOOTS + ";stride b up";

    public static void main(String[] args) {
        goodTexts();
        form();
        names();
        again();
        bounds();
        many();
        lacks();
        strides();
        late();
        ofOnePlace();
        due.end();
    }

    private static void good(String text) {
        texts.good(text);
    }

    private static void bad(String text, int fault, int where) {
        texts.bad(text, fault, where);
    }

    private static void badLast(String text, int fault) {
        texts.badLast(text, fault);
    }

    private static void badEnd(String text, int fault) {
        texts.badEnd(text, fault);
    }

    private static void goodTexts() {
        due.part("good");
        good(BOOTS);
        good("  land   cells 9 son 4 curate 0 gout 0  ;  boots b 3   ");
        good("land cells9son4curate0gout0;boots b3");
        good("land cells 009 son 004 curate 0 gout 000;boots b 3");
        good("land cells 8 son 7 curate 7 gout 100;boots b 2;boots c 9;boots d 9");
        good("land cells 60 son 59 curate 59 gout 100;boots b 2");
        good(LAND + ";boots abcdefgh 3;stride abcdefgh up");
        good(LAND + ";boots cells 3;boots up 4;boots bog 2;place at at 0 folk 1;stride up down");
        good(BOOTS + ";ground bog 8 8;ground heath 0 8;ground wood 3 4;ground bog 0 0;ground bog 0 1;ground bog 0 2");
        good(BOOTS + ";place a at 0 folk 1;place c at 1 folk 99;place d at 2 folk 9;place e at 3 folk 9;place f at 8 folk 9;place g at 5 folk 9");
        good(BOOTS + ";stride b up;unsure 1;seen 0 there;stride b down;unsure 2;boots c 2;place p at 5 folk 3;seen 5 gone;stride c down");
        good(BOOTS + ";seen 0 gone;seen 1 there;seen 2 gone;seen 3 gone;seen 4 gone;seen 8 gone");
        good(STRIDE + ";stride b down;stride b up;stride b down;unsure 4;unsure 2;unsure 1;unsure 3;stride b up;stride b down;stride b up;stride b down");
    }

    private static void form() {
        due.part("1 form");
        SevenLeague x = new SevenLeague();
        due.refused("land(0)", x.land(0), x, 4);
        due.is("fault of nothing", 1, x.fault());
        due.is("where of nothing", 0, x.where());
        badEnd("   ", 1);
        badEnd("land", 1);
        badEnd("land cells", 1);
        badEnd("land cells 9 son 4 curate 0 gout", 1);
        badEnd("land cells 9 son 4 curate 0   ", 1);
        badEnd(LAND + ";", 1);
        badEnd(BOOTS + ";", 1);
        badEnd(BOOTS + "; ", 1);
        badEnd(BOOTS + ";stride b", 1);
        badEnd(BOOTS + ";place p", 1);
        badEnd(BOOTS + ";place p at 3", 1);
        badEnd(BOOTS + ";seen 3", 1);
        badEnd(BOOTS + ";ground bog 3", 1);
        badEnd(STRIDE + ";unsure", 1);
        bad("9", 1, 0);
        bad(" ;" + BOOTS, 1, 1);
        bad(" river", 1, 1);
        bad("Land cells 9", 1, 0);
        bad("land\tcells 9", 1, 4);
        bad("land cells -9", 1, 11);
        bad("land cells \u00e19", 1, 11);
        bad("land cells \u00009", 1, 11);
        bad("land cells \u00b19", 1, 11);
        badLast("land cell", 1);
        badLast("land cells nine", 1);
        bad("land cells ;", 1, 11);
        bad("land cells 0009 son 4", 1, 11);
        bad("land cells 1234", 1, 11);
        badLast("land cells 9 curate", 1);
        badLast("land cells 9 son 4 gout", 1);
        badLast(LAND + " boots", 1);
        badLast(LAND + " 5", 1);
        bad(LAND + ";;", 1, LAND.length() + 1);
        badLast(BOOTS + ";ground sand", 1);
        badLast(BOOTS + ";ground 3", 1);
        badLast(BOOTS + ";boots abcdefghi", 1);
        badLast(BOOTS + ";boots abcdefghijklmnopqrstuvwxyz", 1);
        badLast(BOOTS + ";boots 3", 1);
        for (String head : new String[] {"land", "ground", "boots", "place", "stride", "unsure", "seen"}) {
            badLast(BOOTS + ";boots " + head, 1);
            badLast(BOOTS + ";place " + head, 1);
            badLast(BOOTS + ";stride " + head, 1);
        }
        for (String head : new String[] {"land", "ground", "boots", "place", "stride", "unsure", "seen"}) {
            badLast(BOOTS + ";x" + head.substring(1), 1);
            badLast(BOOTS + ";" + head.substring(0, head.length() - 1) + "x", 1);
            badLast(BOOTS + ";" + head + "s", 1);
            good(BOOTS + ";boots x" + head.substring(1) + " 4");
            good(BOOTS + ";boots " + head + "s 4");
        }
        badLast(BOOTS + ";ground dog", 1);
        badLast(BOOTS + ";seen 3 done", 1);
        badLast("land bells", 1);
        badLast(BOOTS + ";place p on", 1);
        badLast(BOOTS + ";place p at 3 and", 1);
        badLast(BOOTS + ";stride 1", 1);
        badLast(BOOTS + ";stride b left", 1);
        badLast(BOOTS + ";stride b u", 1);
        badLast(BOOTS + ";stride b upp", 1);
        badLast(STRIDE + ";unsure first", 1);
        badLast(BOOTS + ";seen 3 here", 1);
        badLast(BOOTS + ";seen b", 1);
        bad(BOOTS + ";boots c 3x", 1, BOOTS.length() + 10);
    }

    private static void names() {
        due.part("2 names");
        badLast(LAND + ";stride b", 2);
        badLast(BOOTS + ";stride c", 2);
        badLast(BOOTS + ";stride bb", 2);
        badLast(BOOTS + ";place p at 3 folk 2;stride p", 2);
        bad(LAND + ";stride b up;boots b 3", 2, LAND.length() + 8);
    }

    private static void again() {
        due.part("3 again");
        badLast(BOOTS + ";boots b", 3);
        badLast(BOOTS + ";place b", 3);
        badLast(BOOTS + ";place p at 3 folk 2;place p", 3);
        badLast(BOOTS + ";place p at 3 folk 2;boots p", 3);
        badLast(BOOTS + ";place p at 3 folk 2;place q at 3", 3);
        badLast(BOOTS + ";place p at 3 folk 2;place q at 03", 3);
        badLast(STRIDE + ";unsure 1;unsure 1", 3);
        badLast(BOOTS + ";seen 4 there;seen 4", 3);
        badLast(LAND + ";land", 3);
        badLast(BOOTS + ";land", 3);
    }

    private static void bounds() {
        due.part("4 bounds");
        badLast("land cells 7", 4);
        badLast("land cells 61", 4);
        badLast("land cells 9 son 9", 4);
        badLast("land cells 9 son 0 curate 9", 4);
        badLast("land cells 9 son 0 curate 0 gout 101", 4);
        badLast(BOOTS + ";boots c 1", 4);
        badLast(BOOTS + ";boots c 10", 4);
        badLast(BOOTS + ";boots c 0", 4);
        badLast(BOOTS + ";ground bog 9", 4);
        badLast(BOOTS + ";ground bog 2 9", 4);
        badLast(BOOTS + ";ground bog 2 1", 4);
        badLast(BOOTS + ";place p at 9", 4);
        badLast(BOOTS + ";place p at 8 folk 0", 4);
        badLast(BOOTS + ";place p at 8 folk 100", 4);
        badLast(BOOTS + ";unsure 1", 4);
        badLast(STRIDE + ";unsure 0", 4);
        badLast(STRIDE + ";unsure 2", 4);
        badLast(BOOTS + ";seen 9", 4);
        bad(BOOTS + ";unsure 1;stride b up", 4, BOOTS.length() + 8);
    }

    private static void many() {
        due.part("5 many");
        badLast(BOOTS + ";boots c 3;boots d 3;boots", 5);
        badLast(BOOTS + ";ground bog 1 1".repeat(6) + ";ground", 5);
        String places = "";
        for (int i = 0; i < 6; i++) places += ";place p" + (char) ('a' + i) + " at " + i + " folk 5";
        badLast(BOOTS + places + ";place", 5);
        badLast(BOOTS + ";stride b up;stride b down".repeat(4) + ";stride", 5);
        badLast(STRIDE + ";stride b down;stride b up;stride b down;stride b up;unsure 1;unsure 2;unsure 3;unsure 4;unsure", 5);
        String seen = "";
        for (int i = 0; i < 6; i++) seen += ";seen " + i + " there";
        badLast(BOOTS + seen + ";seen", 5);
    }

    private static void lacks() {
        due.part("6 lacks");
        for (String head : new String[] {"ground", "boots", "place", "stride", "unsure", "seen"}) {
            bad(head, 6, 0);
            bad("  " + head + " b 3;" + LAND, 6, 2);
        }
        badEnd(LAND, 6);
        badEnd(LAND + "  ", 6);
        badEnd(LAND + ";place p at 3 folk 2", 6);
    }

    private static void strides() {
        due.part("7 stride");
        badLast(STRIDE + ";stride b up", 7);
        badLast("land cells 9 son 0 curate 0 gout 0;boots b 3;stride b down", 7);
        badLast("land cells 9 son 8 curate 0 gout 0;boots b 2;stride b up", 7);
        badLast("land cells 12 son 0 curate 0 gout 0;boots b 4;boots c 2;stride b up;stride c down", 7);
        badLast("land cells 9 son 8 curate 0 gout 0;boots b 2;stride b left", 1);
    }

    private static void late() {
        due.part("8 late");
        badLast(STRIDE + ";ground", 8);
        bad(STRIDE + ";ground bog 1 1;boots b 3", 8, STRIDE.length() + 1);
        bad(STRIDE + ";seen 3 there;ground sand", 8, STRIDE.length() + 14);
    }

    private static void ofOnePlace() {
        due.part("of one place");
        badLast(BOOTS + ";ground bog 1 1".repeat(6) + ";stride b up;ground", 5);
        bad(LAND + ";boots b 10;%", 4, LAND.length() + 9);
        bad(LAND + ";% boots b 10", 1, LAND.length() + 1);
        bad("boots b 3 %", 6, 0);
    }
}
