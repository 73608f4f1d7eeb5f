/** Lands at the bounds of the document. */
final class Lands {
    /** The least one: eight cells, one pair of the shortest boots, nothing else. */
    static final String LEAST = "land cells 8 son 0 curate 0 gout 0;boots b 2";

    /**
     * The most of all that can be told: the son goes 30, 32, 30, 32, 41, 32, 41, 32, 30, so gone are 31 and 33 to 40; places at
     * 33 to 38 are lost, 99 folk each.
     */
    static final String MOST = "land cells 60 son 30 curate 59 gout 100;boots nine 9;boots two 2;boots five 5;"
            + "ground bog 0 59;ground heath 0 59;ground bog 35 35;ground wood 36 36;ground wood 37 38;ground heath 38 38;"
            + "place pa at 33 folk 99;place pb at 34 folk 99;place pc at 35 folk 99;place pd at 36 folk 99;place pe at 37 folk 99;"
            + "place pf at 38 folk 99;stride two up;stride two down;stride two up;stride nine up;stride nine down;stride nine up;"
            + "stride nine down;stride two down;unsure 1;unsure 8;unsure 4;unsure 2;seen 0 there;seen 31 gone;seen 33 gone;"
            + "seen 40 gone;seen 41 there;seen 59 there";

    /** As much as can be gone: there are 0, 9, 18, 27, 36, 45, 54 and 59 alone, where the son is. */
    static final String LEAPT = "land cells 60 son 0 curate 59 gout 0;boots nine 9;boots five 5;stride nine up;stride nine up;"
            + "stride nine up;stride nine up;stride nine up;stride nine up;stride five up";

    /** The widest gap, all wood: 0 and 9 are there, 1 to 8 are gone, each 3 deep. */
    static final String WOOD = "land cells 10 son 0 curate 0 gout 0;ground wood 0 9;boots nine 9;stride nine up";

    /** Gone are 1 (heath, 1 deep), 2 (bog, 2 deep), 3 (wood, 3 deep). */
    static final String THREE = "land cells 8 son 0 curate 7 gout 0;ground bog 2 2;ground wood 3 3;boots b 4;boots c 2;stride b up";

    private Lands() {
    }
}
