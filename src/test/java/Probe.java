import java.util.ArrayList;
import java.util.List;
import java.util.NoSuchElementException;

/** All that can be found out of an object by its calls; two objects are in the same state if their probes are alike. */
final class Probe {
    private final SevenLeague x;
    private final List<String> answers = new ArrayList<>();

    private Probe(SevenLeague x) {
        this.x = x;
    }

    /** Answers of calls that only ask. */
    static List<String> asking(SevenLeague x) {
        Probe probe = new Probe(x);
        probe.sizes();
        probe.now();
        probe.strides();
        probe.others();
        return probe.answers;
    }

    /** Those, and then what can be undone, what the images and the tape hold; the object is used up by it. */
    static List<String> whole(SevenLeague x) {
        Probe probe = new Probe(x);
        probe.answers.addAll(asking(x));
        for (int i = 0; i < 17; i++) {
            probe.add("undo", x.undo() ? 1 : 0);
            probe.shortly();
        }
        for (int i = 0; i < 3; i++) {
            probe.add("back " + i, x.back(i) ? 1 : 0);
            probe.shortly();
        }
        probe.add("land of the tape", x.land(x.size(10)));
        probe.add("fault", x.fault());
        probe.add("where", x.where());
        probe.shortly();
        return probe.answers;
    }

    private void add(String call, long answer) {
        answers.add(call + " -> " + answer);
    }

    private void sizes() {
        for (int what = 0; what <= 10; what++) add("size " + what, x.size(what));
        add("fault", x.fault());
    }

    private void shortly() {
        add("son", x.son());
        add("curate", x.curate());
        add("gone", x.gone());
        add("deep", x.deep(0, Math.max(0, x.size(0) - 1)));
        add("years", x.size(7));
        add("acts", x.size(8));
    }

    private void now() {
        for (int k = 0; k < x.size(0); k++) {
            for (int what = 0; what <= 3; what++) add("cell " + k + " " + what, x.cell(k, what));
        }
        for (int p = 0; p < x.size(3); p++) {
            for (int what = 0; what <= 2; what++) add("place " + p + " " + what, x.place(p, what));
        }
        for (int b = 0; b < x.size(2); b++) add("boots " + b, x.boots(b));
        shortly();
        add("lost", x.lost());
        add("stretches", x.stretches());
        add("longest", x.longest());
        add("widest", x.widest());
        add("between", x.between(1, 5));
        add("nearest", x.nearest());
        add("goneIn", x.goneIn(2));
        add("lostIn", x.lostIn(2));
        add("backIn", x.backIn(3));
        add("stillIn", x.stillIn());
        for (int i = 0; i < 6; i++) add("led " + i, led(i));
    }

    private int led(int i) {
        try {
            return x.led(i);
        } catch (NoSuchElementException e) {
            return -77;
        }
    }

    private void strides() {
        for (int way = 0; way <= 1; way++) {
            add("leads " + way, x.leads(0, way));
            add("passes " + way, x.passes(0, way));
            add("costs " + way, x.costs(0, way));
        }
        add("rowLeads", x.rowLeads(12, 2));
        add("rowLost", x.rowLost(1, 1));
        for (int k = 0; k < x.size(0); k += 3) {
            add("come " + k, x.come(k));
            add("comeAt " + k, x.comeAt(k, 0));
            add("spare " + k, x.spare(k));
            add("spareRow " + k, x.spareRow(k));
        }
        add("reach", x.reach(3));
        add("sum", x.sum(14));
        add("over", x.over(3));
        add("never", x.never());
        add("tour", x.tour(5));
        add("tourGone", x.tourGone(5));
        add("tourAt", x.tourAt(5, 4));
        add("steps", x.steps(4));
    }

    private void others() {
        add("fits", x.fits());
        add("fitAt", x.fitAt(0));
        add("could", x.could());
        add("surely", x.surely());
        add("ask", x.ask());
        add("askLeaves", x.askLeaves());
        add("judge", x.judge());
        add("goes", x.goes(4, true, true, false));
        add("rests", x.rests(1));
        add("rest", x.rest(1));
        add("odds", x.odds(9, 1, 1, true));
        add("mean", x.mean(1, 1, false));
        add("drawn", x.drawn(1, 1, 5));
    }
}
