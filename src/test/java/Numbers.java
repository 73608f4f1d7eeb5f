import java.util.ArrayList;
import java.util.List;

/** Numbers at bounds. */
final class Numbers {
    private Numbers() {
    }

    /** Out of bounds: by one, by a few, by what a byte, a short or a shift of a long would cut off, and the farthest. */
    static List<Integer> outside(int least, int most) {
        List<Integer> all = new ArrayList<>();
        for (long by : new long[] {1, 2, 10, 64, 100, 256, 65536, 65537, 1L << 30}) {
            all.add((int) (least - by));
            all.add((int) Math.min(Integer.MAX_VALUE, most + by));
        }
        for (long wrap : new long[] {64, 256, 65536}) {
            if (most - least < wrap) all.add((int) (least + wrap));
            if (most - least < wrap) all.add((int) (most - wrap));
        }
        all.addAll(List.of(Integer.MIN_VALUE, Integer.MIN_VALUE + 1, Integer.MAX_VALUE - 1, Integer.MAX_VALUE));
        all.removeIf(n -> n >= least && n <= most);
        return all;
    }
}
