import java.util.ArrayList;
import java.util.List;
import java.util.function.ToIntFunction;

/** Refused calls: whatever the numbers, the refusal that is due, and nothing changes. */
public final class RefusalsTest {
    private static final int[] NUMBERS = {Integer.MIN_VALUE, -100, -10, -2, -1, 10, 11, 31, 32, 33,
        101, 1024, Integer.MAX_VALUE};
    private static final int NO_PLAYER = -1;
    private static final int OUTSIDE = -2;
    private static final int LOST_PLAYER = -100001;
    private static final int LOST_OUTSIDE = -100002;

    private static final List<Integer> AHEAD = all(made());

    public static void main(String[] args) {
        for (int number : NUMBERS) {
            theNet(number);
            theSteps(number);
            theRises(number);
        }
        Due.end();
    }

    private static GameNet made() {
        GameNet net = Nets.row();
        net.hold(2, true);
        net.state(4);
        net.bar(30);
        Nets.pays(net, 2, -1, 1, 3);
        return net;
    }

    private static void refused(String name, ToIntFunction<GameNet> call, int want) {
        GameNet net = made();
        Due.is(name, call.applyAsInt(net), want);
        Due.holds(name + " changes nothing", all(net).equals(AHEAD));
    }

    private static List<Integer> all(GameNet net) {
        List<Integer> all = new ArrayList<>();
        for (int what = 0; what <= 13; what++) {
            all.add(net.told(what));
        }
        for (int a = 0; a < 3; a++) {
            for (int b = 0; b < 3; b++) {
                all.add(net.weight(a, b));
            }
        }
        for (int rule = 0; rule <= 3; rule++) {
            all.add(net.end(rule, 0));
            all.add(net.tip(rule));
        }
        return all;
    }

    private static void theNet(int x) {
        if (x != 10) {
            refused("players(" + x + ")", net -> net.players(x), OUTSIDE);
        }
        refused("line(" + x + ", 1, 1)", net -> net.line(x, 1, 1), NO_PLAYER);
        refused("line(1, " + x + ", 1)", net -> net.line(1, x, 1), NO_PLAYER);
        refused("line(1, " + x + ", -1)", net -> net.line(1, x, -1), NO_PLAYER);
        refused("line(" + x + ", " + x + ", 10)", net -> net.line(x, x, 10), NO_PLAYER);
        refused("line(0, 2, " + x + ")", net -> net.line(0, 2, x), OUTSIDE);
        refused("line(1, 1, " + x + ")", net -> net.line(1, 1, x), NO_PLAYER);
        refused("weight(" + x + ", 1)", net -> net.weight(x, 1), NO_PLAYER);
        refused("weight(1, " + x + ")", net -> net.weight(1, x), NO_PLAYER);
        refused("pay(" + x + ", 0, 0)", net -> net.pay(x, 0, 0), LOST_OUTSIDE);
        refused("pay(0, " + x + ", 0)", net -> net.pay(0, x, 0), LOST_OUTSIDE);
        if (x < -9 || x > 9) {
            refused("pay(1, 1, " + x + ")", net -> net.pay(1, 1, x), LOST_OUTSIDE);
        }
        if (x < 0 || x > 100) {
            refused("bar(" + x + ")", net -> net.bar(x), OUTSIDE);
            refused("hangs(1, " + x + ")", net -> net.hangs(1, x), OUTSIDE);
        }
        refused("hold(" + x + ", true)", net -> net.hold(x, true), NO_PLAYER);
        refused("hold(" + x + ", false)", net -> net.hold(x, false), NO_PLAYER);
        refused("state(" + x + ")", net -> net.state(x), OUTSIDE);
        refused("wage(" + x + ", 0)", net -> net.wage(x, 0), LOST_PLAYER);
        refused("wage(" + x + ", 2)", net -> net.wage(x, 2), LOST_PLAYER);
        refused("wage(0, " + x + ")", net -> net.wage(0, x), LOST_OUTSIDE);
    }

    private static void theSteps(int x) {
        refused("step(" + x + ", 1)", net -> net.step(x, 1), OUTSIDE);
        if (x < 1 || x > 100) {
            refused("step(0, " + x + ")", net -> net.step(0, x), OUTSIDE);
        }
        refused("after(" + x + ", 0)", net -> net.after(x, 0), OUTSIDE);
        refused("after(0, " + x + ")", net -> net.after(0, x), OUTSIDE);
        refused("goes(" + x + ", 0)", net -> net.goes(x, 0), OUTSIDE);
        refused("goes(0, " + x + ")", net -> net.goes(0, x), OUTSIDE);
        refused("end(" + x + ", -1)", net -> net.end(x, -1), OUTSIDE);
        refused("basin(" + x + ", 0, 0)", net -> net.basin(x, 0, 0), OUTSIDE);
        refused("basin(0, 0, " + x + ")", net -> net.basin(0, 0, x), OUTSIDE);
        refused("basin(0, " + x + ", 3)", net -> net.basin(0, x, 3), OUTSIDE);
        refused("basin(0, " + x + ", 0)", net -> net.basin(0, x, 0), GameNet.NONE);
        refused("lone(" + x + ")", net -> net.lone(x), OUTSIDE);
        refused("before(" + x + ", -1)", net -> net.before(x, -1), OUTSIDE);
        if (x != -1) {
            refused("end(0, " + x + ")", net -> net.end(0, x), GameNet.NONE);
            refused("before(0, " + x + ")", net -> net.before(0, x), GameNet.NONE);
        }
    }

    private static void theRises(int x) {
        refused("tip(" + x + ")", net -> net.tip(x), OUTSIDE);
        refused("share(" + x + ")", net -> net.share(x), OUTSIDE);
        refused("hangs(" + x + ", 50)", net -> net.hangs(x, 50), OUTSIDE);
        if (x < 10 || x > 13) {
            refused("told(" + x + ")", net -> net.told(x), LOST_OUTSIDE);
        }
    }
}
