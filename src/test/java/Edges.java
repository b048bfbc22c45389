import java.util.ArrayList;
import java.util.List;
import java.util.Set;
import java.util.TreeSet;

/** The numbers of a range, and those that lie beyond its ends. */
final class Edges {
    /** Added to a number of a range, these would be lost by a shift, a byte, a short or a mask. */
    private static final int[] WRAPS = {32, 64, 256, 1024, 65536, 1 << 30, Integer.MIN_VALUE};

    private Edges() {
    }

    static List<Integer> within(int least, int greatest) {
        List<Integer> found = new ArrayList<>();
        for (int x = least; x <= greatest; x++) {
            found.add(x);
        }
        return found;
    }

    /** A small range whole; of a great one both ends and the midst. */
    static Set<Integer> taken(int least, int greatest) {
        if (greatest - least < 100) {
            return new TreeSet<>(within(least, greatest));
        }
        int midst = (least + greatest) / 2;
        Set<Integer> found = new TreeSet<>(within(midst - 1, midst + 1));
        found.addAll(within(least, least + 3));
        found.addAll(within(greatest - 3, greatest));
        return found;
    }

    /** Those next to the range, the least and the greatest int, and what would wrap into it. */
    static Set<Integer> beyond(int least, int greatest) {
        Set<Integer> found = new TreeSet<>();
        found.addAll(within(least - 3, least - 1));
        found.addAll(within(greatest + 1, greatest + 3));
        for (int end : new int[] {least, greatest}) {
            found.add(~end);
            found.add(-end);
            for (int wrap : WRAPS) {
                found.add(end + wrap);
                found.add(end - wrap);
            }
        }
        found.addAll(List.of(Integer.MIN_VALUE, Integer.MIN_VALUE + 1,
                Integer.MAX_VALUE - 1, Integer.MAX_VALUE));
        found.removeAll(within(least, greatest));
        return found;
    }
}
