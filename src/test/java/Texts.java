/** Texts that are lands, and texts with a fault. */
final class Texts {
    private final Due due;

    Texts(Due due) {
        this.due = due;
    }

    /** The text is a land; answers the object that has it. */
    SevenLeague good(String text) {
        SevenLeague x = new SevenLeague();
        Tapes.feed(x, text);
        int cells = x.land(text.length());
        due.is("land of '" + text + "' (fault " + x.fault() + " at " + x.where() + ") is one", true, cells >= 8);
        due.is("trouble of '" + text + "'", 0, x.trouble());
        due.is("fault of '" + text + "'", 0, x.fault());
        due.is("where of '" + text + "'", -1, x.where());
        due.is("cells of '" + text + "'", cells, x.size(0));
        return x;
    }

    void bad(String text, int fault, int where) {
        badAsItIs(text, fault, where);
        // What stands behind the first fault doesn't matter.
        if (where < text.length() && text.length() < 880) {
            badAsItIs(text + ";%", fault, where);
            badAsItIs(text + ";boots zz 0", fault, where);
        }
    }

    private void badAsItIs(String text, int fault, int where) {
        SevenLeague x = new SevenLeague();
        Tapes.feed(x, text);
        due.refused("land of '" + text + "'", x.land(text.length()), x, 4);
        due.is("fault of '" + text + "'", fault, x.fault());
        due.is("where of '" + text + "'", where, x.where());
        due.is("cells of '" + text + "'", 0, x.size(0));
        due.is("tape behind '" + text + "'", 0, x.size(10));
    }

    /** The fault is at the last token of the text. */
    void badLast(String text, int fault) {
        bad(text, fault, Math.max(text.lastIndexOf(' '), text.lastIndexOf(';')) + 1);
    }

    void badEnd(String text, int fault) {
        bad(text, fault, text.length());
    }
}
