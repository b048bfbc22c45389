import java.util.ArrayList;
import java.util.List;
import java.util.TreeMap;
import java.util.TreeSet;

/**
 * The document's words once more, as plainly as they can be written, without a thought for speed:
 * nothing is kept from call to call, each player is looked at by itself, each way is walked whole.
 */
final class PlainGame {
    int n = 4;
    int[][] weight = new int[4][4];
    final int[][] pay = {{1, 0}, {0, 1}};
    int bar = 50;
    boolean[] held = new boolean[4];
    int[] ways = new int[4];

    int players(int count) {
        if (count < 2 || count > 10) {
            return -2;
        }
        int was = n;
        n = count;
        weight = new int[n][n];
        held = new boolean[n];
        ways = new int[n];
        return was;
    }

    int line(int a, int b, int w) {
        if (weight(a, b) == -1) {
            return -1;
        }
        if (w < 0 || w > 9) {
            return -2;
        }
        int was = weight[a][b];
        weight[a][b] = w;
        weight[b][a] = w;
        return was;
    }

    int weight(int a, int b) {
        return a < 0 || b < 0 || a >= n || b >= n || a == b ? -1 : weight[a][b];
    }

    int pay(int x, int y, int v) {
        if (x < 0 || x > 1 || y < 0 || y > 1 || v < -9 || v > 9) {
            return -100002;
        }
        int was = pay[x][y];
        pay[x][y] = v;
        return was;
    }

    int bar(int v) {
        if (v < 0 || v > 100) {
            return -2;
        }
        int was = bar;
        bar = v;
        return was;
    }

    int hold(int player, boolean is) {
        if (player < 0 || player >= n) {
            return -1;
        }
        int was = held[player] ? 1 : 0;
        held[player] = is;
        return was;
    }

    int state(int bits) {
        if (bits < 0 || bits >= Math.pow(2, n)) {
            return -2;
        }
        int was = bits(ways);
        ways = ways(bits);
        return was;
    }

    int wage(int player, int what) {
        if (player < 0 || player >= n) {
            return -100001;
        }
        if (what < 0 || what > 1) {
            return -100002;
        }
        return wageOf(player, what == 0 ? ways[player] : 1 - ways[player], ways);
    }

    int sum() {
        int total = 0;
        for (int player = 0; player < n; player++) {
            total += wage(player, 0);
        }
        return total;
    }

    int step(int rule, int times) {
        if (badRule(rule) || times < 1 || times > 100) {
            return -2;
        }
        for (int time = 0; time < times; time++) {
            ways = next(rule, held, ways);
        }
        return bits(ways);
    }

    int after(int rule, int bits) {
        return badRule(rule) || bits < 0 || bits >= Math.pow(2, n)
                ? -2 : bits(next(rule, held, ways(bits)));
    }

    int goes(int rule, int what) {
        if (badRule(rule) || what < 0 || what > 3) {
            return -2;
        }
        Way way = walk(rule, held, bits(ways));
        switch (what) {
            case 0:
                return way.tail.size();
            case 1:
                return way.ring.size();
            case 2:
                return new TreeSet<>(way.ring).first();
            default:
                return way.ring.get(0);
        }
    }

    int end(int rule, int i) {
        if (badRule(rule)) {
            return -2;
        }
        List<Integer> ends = new ArrayList<>(ends(rule).keySet());
        return pick(ends, i);
    }

    int basin(int rule, int i, int what) {
        if (badRule(rule) || what < 0 || what > 2) {
            return -2;
        }
        List<List<Way>> basins = new ArrayList<>(ends(rule).values());
        if (i < 0 || i >= basins.size()) {
            return -6;
        }
        List<Way> basin = basins.get(i);
        int greatest = 0;
        for (Way way : basin) {
            greatest = Math.max(greatest, way.tail.size());
        }
        return what == 0 ? basin.size() : what == 1 ? basin.get(0).ring.size() : greatest;
    }

    int lone(int rule) {
        if (badRule(rule)) {
            return -2;
        }
        TreeSet<Integer> lone = new TreeSet<>(beginnings());
        for (int from : beginnings()) {
            lone.remove(after(rule, from));
        }
        return lone.size();
    }

    int before(int rule, int i) {
        if (badRule(rule)) {
            return -2;
        }
        List<Integer> found = new ArrayList<>();
        for (int from : beginnings()) {
            if (after(rule, from) == bits(ways)) {
                found.add(from);
            }
        }
        return pick(found, i);
    }

    int rise() {
        return riseOf(ways);
    }

    int highest() {
        int best = beginnings().get(0);
        for (int bits : beginnings()) {
            if (riseOf(ways(bits)) > riseOf(ways(best))) {
                best = bits;
            }
        }
        return best;
    }

    int rests() {
        return restsAt(ways) ? 1 : 0;
    }

    int restMany() {
        int many = 0;
        for (int bits : beginnings()) {
            many += restsAt(ways(bits)) ? 1 : 0;
        }
        return many;
    }

    int tip(int rule) {
        if (badRule(rule)) {
            return -2;
        }
        int best = -6;
        for (int set = 0; set < Math.pow(2, n); set++) {
            if (best == -6 || Integer.bitCount(set) < Integer.bitCount(best)) {
                boolean[] holding = new boolean[n];
                for (int player = 0; player < n; player++) {
                    holding[player] = ways(set)[player] == 1;
                }
                Way way = walk(rule, holding, set);
                int all = (int) Math.pow(2, n) - 1;
                if (way.tail.contains(all) || way.ring.contains(all)) {
                    best = set;
                }
            }
        }
        return best;
    }

    int share(int what) {
        if (what < 0 || what > 1) {
            return -2;
        }
        int upper = pay[0][0] - pay[1][0];
        int lower = upper + pay[1][1] - pay[0][1];
        if (lower <= 0 || upper < 0 || upper > lower) {
            return -3;
        }
        for (int by = lower; by > 1; by--) {
            if (upper % by == 0 && lower % by == 0) {
                upper /= by;
                lower /= by;
            }
        }
        return what == 0 ? upper : lower;
    }

    int hangs(int bits, int hundredths) {
        if (bits < 0 || bits >= Math.pow(2, n) || hundredths < 1 || hundredths > 100) {
            return -2;
        }
        int[] in = ways(bits);
        for (int player = 0; player < n; player++) {
            if (in[player] == 1 && beside(player) > 0
                    && 100 * besideOnes(player, in) < hundredths * beside(player)) {
                return 0;
            }
        }
        return 1;
    }

    int told(int what) {
        switch (what) {
            case 0:
                return n;
            case 1:
                return lines();
            case 2:
                int bits = 0;
                for (int player = 0; player < n; player++) {
                    bits += held[player] ? Math.pow(2, player) : 0;
                }
                return bits;
            case 3:
                return bits(ways);
            case 4:
                return bar;
            case 10:
                return pay[0][0];
            case 11:
                return pay[0][1];
            case 12:
                return pay[1][0];
            case 13:
                return pay[1][1];
            default:
                return -100002;
        }
    }

    // ---- what the terms say

    /** The states from a beginning on: those ahead of the ring, and the ring from its first on. */
    private static final class Way {
        List<Integer> tail = new ArrayList<>();
        List<Integer> ring = new ArrayList<>();
    }

    private static boolean badRule(int rule) {
        return rule < 0 || rule > 3;
    }

    private static int pick(List<Integer> list, int i) {
        return i == -1 ? list.size() : i < 0 || i >= list.size() ? -6 : list.get(i);
    }

    private int[] ways(int bits) {
        int[] row = new int[n];
        for (int player = 0; player < n; player++) {
            row[player] = bits / (int) Math.pow(2, player) % 2;
        }
        return row;
    }

    private static int bits(int[] row) {
        int bits = 0;
        for (int player = row.length - 1; player >= 0; player--) {
            bits = 2 * bits + row[player];
        }
        return bits;
    }

    private int lines() {
        int many = 0;
        for (int[] row : weight) {
            for (int w : row) {
                many += w > 0 ? 1 : 0;
            }
        }
        return many / 2;
    }

    private int beside(int player) {
        int total = 0;
        for (int w : weight[player]) {
            total += w;
        }
        return total;
    }

    private int besideOnes(int player, int[] row) {
        int total = 0;
        for (int other = 0; other < n; other++) {
            total += row[other] == 1 ? weight[player][other] : 0;
        }
        return total;
    }

    private int wageOf(int player, int way, int[] row) {
        int total = 0;
        for (int other = 0; other < n; other++) {
            total += other == player ? 0 : weight[player][other] * pay[way][row[other]];
        }
        return total;
    }

    private int reply(int player, int[] row) {
        int zero = wageOf(player, 0, row);
        int one = wageOf(player, 1, row);
        return zero == one ? row[player] : zero > one ? 0 : 1;
    }

    private int copy(int player, int[] row) {
        int greatest = wageOf(player, row[player], row);
        for (int other = 0; other < n; other++) {
            if (weight[player][other] > 0) {
                greatest = Math.max(greatest, wageOf(other, row[other], row));
            }
        }
        if (wageOf(player, row[player], row) == greatest) {
            return row[player];
        }
        for (int other = 0; other < n; other++) {
            if (weight[player][other] > 0 && wageOf(other, row[other], row) == greatest) {
                return row[other];
            }
        }
        throw new IllegalStateException("someone has the greatest wage");
    }

    private int atBar(int player, int[] row) {
        if (beside(player) == 0) {
            return row[player];
        }
        return 100 * besideOnes(player, row) >= bar * beside(player) ? 1 : 0;
    }

    private int[] next(int rule, boolean[] holding, int[] from) {
        int[] to = from.clone();
        for (int player = 0; player < n; player++) {
            if (!holding[player]) {
                to[player] = rule == 0 ? reply(player, from)
                        : rule == 1 ? copy(player, from)
                        : rule == 2 ? atBar(player, from)
                        : reply(player, to);
            }
        }
        return to;
    }

    private Way walk(int rule, boolean[] holding, int from) {
        List<Integer> seen = new ArrayList<>();
        int at = from;
        while (!seen.contains(at)) {
            seen.add(at);
            at = bits(next(rule, holding, ways(at)));
        }
        Way way = new Way();
        way.tail = seen.subList(0, seen.indexOf(at));
        way.ring = seen.subList(seen.indexOf(at), seen.size());
        return way;
    }

    private List<Integer> beginnings() {
        List<Integer> found = new ArrayList<>();
        for (int bits = 0; bits < Math.pow(2, n); bits++) {
            boolean so = true;
            for (int player = 0; player < n; player++) {
                so &= !held[player] || ways(bits)[player] == ways[player];
            }
            if (so) {
                found.add(bits);
            }
        }
        return found;
    }

    private TreeMap<Integer, List<Way>> ends(int rule) {
        TreeMap<Integer, List<Way>> ends = new TreeMap<>();
        for (int from : beginnings()) {
            Way way = walk(rule, held, from);
            int least = new TreeSet<>(way.ring).first();
            ends.computeIfAbsent(least, end -> new ArrayList<>()).add(way);
        }
        return ends;
    }

    private int riseOf(int[] row) {
        int total = 0;
        for (int a = 0; a < n; a++) {
            for (int b = 0; b < a; b++) {
                if (row[a] == 0 && row[b] == 0) {
                    total += weight[a][b] * (pay[0][0] - pay[1][0]);
                } else if (row[a] == 1 && row[b] == 1) {
                    total += weight[a][b] * (pay[1][1] - pay[0][1]);
                }
            }
        }
        return total;
    }

    private boolean restsAt(int[] row) {
        for (int player = 0; player < n; player++) {
            if (!held[player]
                    && wageOf(player, 1 - row[player], row) > wageOf(player, row[player], row)) {
                return false;
            }
        }
        return true;
    }
}
