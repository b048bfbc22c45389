import java.util.ArrayList;
import java.util.List;
import java.util.function.Supplier;
import java.util.function.ToIntFunction;

/** An object as some calls have left it; each call that is tried gets one of its own. */
final class Place {
    final int players;
    private final String name;
    private final Supplier<GameNet> maker;
    private final List<Integer> ahead;

    private Place(String name, int players, Supplier<GameNet> maker) {
        this.name = name;
        this.players = players;
        this.maker = maker;
        ahead = allThatCanBeAsked(made());
    }

    static List<Place> all() {
        return List.of(
                new Place("a new object", 4, GameNet::new),
                new Place("two players", 2, Place::two),
                new Place("three in a row", 3, Place::row),
                new Place("ten with all lines, all held", 10, Place::allLinesAllHeld),
                new Place("ten without lines, none held", 10, Place::noLines));
    }

    static Place row3() {
        return new Place("three in a row", 3, Place::row);
    }

    private static GameNet two() {
        GameNet net = Nets.full(2, 9);
        net.hold(1, true);
        net.state(2);
        return net;
    }

    private static GameNet row() {
        GameNet net = Nets.row();
        net.hold(2, true);
        net.state(4);
        net.bar(30);
        Nets.pays(net, 2, -4, 1, 3);
        return net;
    }

    private static GameNet allLinesAllHeld() {
        GameNet net = Nets.full(10, 9);
        Nets.holdAll(net);
        net.state(1023);
        net.bar(100);
        Nets.pays(net, 9, -9, -9, 9);
        return net;
    }

    private static GameNet noLines() {
        GameNet net = new GameNet();
        net.players(10);
        net.state(512);
        net.bar(0);
        return net;
    }

    /** What an object may keep from call to call is in use already when the call is tried. */
    GameNet made() {
        GameNet net = maker.get();
        for (int rule = 0; rule <= 3; rule++) {
            net.end(rule, -1);
        }
        return net;
    }

    int lastState() {
        return (1 << players) - 1;
    }

    void refuses(String call, ToIntFunction<GameNet> tried, int refusal) {
        GameNet net = made();
        Due.is(name + ": " + call, tried.applyAsInt(net), refusal);
        Due.holds(name + ": " + call + " changes nothing", allThatCanBeAsked(net).equals(ahead));
    }

    void takes(String call, ToIntFunction<GameNet> tried) {
        int got = tried.applyAsInt(made());
        Due.holds(name + ": " + call + " is taken, but answered " + got, !isRefusal(got));
    }

    private static boolean isRefusal(int answer) {
        return answer == -1 || answer == -2 || answer == -3 || answer == -6 || answer < -99999;
    }

    /** Some two hundred calls: with those that made the object it stays below 512. */
    private static List<Integer> allThatCanBeAsked(GameNet net) {
        List<Integer> all = new ArrayList<>();
        int players = net.told(0);
        for (int what = 0; what <= 13; what++) {
            all.add(net.told(what));
        }
        for (int a = 0; a < players; a++) {
            for (int b = 0; b < players; b++) {
                all.add(net.weight(a, b));
            }
            all.add(net.wage(a, 0));
            all.add(net.wage(a, 1));
        }
        for (int rule = 0; rule <= 3; rule++) {
            askBy(rule, net, 1 << players - 1, all);
        }
        all.addAll(List.of(net.sum(), net.rise(), net.highest(), net.rests(), net.restMany(),
                net.share(0), net.share(1), net.hangs(1, 50), net.hangs((1 << players) - 1, 100)));
        return all;
    }

    private static void askBy(int rule, GameNet net, int lastAlone, List<Integer> all) {
        for (int bits : new int[] {0, 1, lastAlone, 2 * lastAlone - 1}) {
            all.add(net.after(rule, bits));
        }
        for (int what = 0; what <= 3; what++) {
            all.add(net.goes(rule, what));
        }
        for (int what = 0; what <= 2; what++) {
            all.add(net.basin(rule, 0, what));
        }
        all.addAll(List.of(net.end(rule, -1), net.end(rule, 0), net.lone(rule),
                net.before(rule, -1), net.before(rule, 0), net.tip(rule)));
    }
}
