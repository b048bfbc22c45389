/**
 * Each number of each call: all that the document takes are taken, and those beyond both ends of
 * the range are refused as it says and change nothing.
 */
public final class RangesTest {
    private static final int UNKNOWN = -1;
    private static final int OUTSIDE = -2;
    private static final int NONE = -6;
    private static final int LOST_UNKNOWN = -100001;
    private static final int LOST_OUTSIDE = -100002;

    /** A call of which one number is left open. */
    private interface Open {
        int call(GameNet net, int number);
    }

    private final Place place;
    private final int last;

    private RangesTest(Place place) {
        this.place = place;
        last = place.players - 1;
    }

    public static void main(String[] args) {
        for (Place place : Place.all()) {
            RangesTest test = new RangesTest(place);
            test.players();
            test.lines();
            test.game();
            for (int rule = 0; rule <= 3; rule++) {
                test.steps(rule);
                test.ends(rule);
            }
            test.rules();
            test.rises();
            test.told();
        }
        Due.end();
    }

    private void range(String name, int least, int greatest, int refusal, Open open) {
        for (int x : Edges.taken(least, greatest)) {
            place.takes(name.replace("_", "" + x), net -> open.call(net, x));
        }
        for (int x : Edges.beyond(least, greatest)) {
            place.refuses(name.replace("_", "" + x), net -> open.call(net, x), refusal);
        }
    }

    /** "PLAYERS 0 to n - 1 (n 2 to 10 ..)", "UNKNOWN -1 (there is no such PLAYER)". */
    private void players() {
        range("players(_)", 2, 10, OUTSIDE, (net, x) -> net.players(x));
        range("hold(_, true)", 0, last, UNKNOWN, (net, x) -> net.hold(x, true));
        range("hold(_, false)", 0, last, UNKNOWN, (net, x) -> net.hold(x, false));
        range("wage(_, 0)", 0, last, LOST_UNKNOWN, (net, x) -> net.wage(x, 0));
        range("wage(_, 1)", 0, last, LOST_UNKNOWN, (net, x) -> net.wage(x, 1));
        range("wage(0, _)", 0, 1, LOST_OUTSIDE, (net, x) -> net.wage(0, x));
    }

    /** "UNKNOWN: also they are one": the one end of the range is the other PLAYER of the LINE. */
    private void lines() {
        range("line(_, 0, 1)", 1, last, UNKNOWN, (net, x) -> net.line(x, 0, 1));
        range("line(0, _, 1)", 1, last, UNKNOWN, (net, x) -> net.line(0, x, 1));
        range("line(_, last, 1)", 0, last - 1, UNKNOWN, (net, x) -> net.line(x, last, 1));
        range("line(last, _, 1)", 0, last - 1, UNKNOWN, (net, x) -> net.line(last, x, 1));
        range("line(0, last, _)", 0, 9, OUTSIDE, (net, x) -> net.line(0, last, x));
        range("weight(_, 0)", 1, last, UNKNOWN, (net, x) -> net.weight(x, 0));
        range("weight(0, _)", 1, last, UNKNOWN, (net, x) -> net.weight(0, x));
        range("weight(_, last)", 0, last - 1, UNKNOWN, (net, x) -> net.weight(x, last));
        range("weight(last, _)", 0, last - 1, UNKNOWN, (net, x) -> net.weight(last, x));
    }

    /** "PAYS of the game (-9 to 9)", "x, y 0 or 1", "BAR (0 to 100 ..)", "as bits". */
    private void game() {
        range("pay(_, 0, 0)", 0, 1, LOST_OUTSIDE, (net, x) -> net.pay(x, 0, 0));
        range("pay(0, _, 0)", 0, 1, LOST_OUTSIDE, (net, x) -> net.pay(0, x, 0));
        range("pay(1, 0, _)", -9, 9, LOST_OUTSIDE, (net, x) -> net.pay(1, 0, x));
        range("pay(0, 1, _)", -9, 9, LOST_OUTSIDE, (net, x) -> net.pay(0, 1, x));
        range("bar(_)", 0, 100, OUTSIDE, (net, x) -> net.bar(x));
        range("state(_)", 0, place.lastState(), OUTSIDE, (net, x) -> net.state(x));
    }

    /** "n STEPS (1 to 100)", and what `bits` and `what` may be. */
    private void steps(int rule) {
        String by = "(" + rule + ", ";
        range("step" + by + "_)", 1, 100, OUTSIDE, (net, x) -> net.step(rule, x));
        range("after" + by + "_)", 0, place.lastState(), OUTSIDE, (net, x) -> net.after(rule, x));
        range("goes" + by + "_)", 0, 3, OUTSIDE, (net, x) -> net.goes(rule, x));
        range("basin" + by + "0, _)", 0, 2, OUTSIDE, (net, x) -> net.basin(rule, 0, x));
    }

    /** "how many (i = -1), .. ; NONE", "NONE: there is no END i": -1 is none for `basin`. */
    private void ends(int rule) {
        String by = "(" + rule + ", ";
        int ends = place.made().end(rule, -1);
        int before = place.made().before(rule, -1);
        range("end" + by + "_)", -1, ends - 1, NONE, (net, x) -> net.end(rule, x));
        range("before" + by + "_)", -1, before - 1, NONE, (net, x) -> net.before(rule, x));
        for (int what = 0; what <= 2; what++) {
            int asked = what;
            range("basin" + by + "_, " + what + ")", 0, ends - 1, NONE,
                    (net, x) -> net.basin(rule, x, asked));
        }
    }

    /** "a RULE (0 to 3)". */
    private void rules() {
        range("step(_, 1)", 0, 3, OUTSIDE, (net, x) -> net.step(x, 1));
        range("after(_, 0)", 0, 3, OUTSIDE, (net, x) -> net.after(x, 0));
        range("goes(_, 0)", 0, 3, OUTSIDE, (net, x) -> net.goes(x, 0));
        range("end(_, -1)", 0, 3, OUTSIDE, (net, x) -> net.end(x, -1));
        range("end(_, 0)", 0, 3, OUTSIDE, (net, x) -> net.end(x, 0));
        range("basin(_, 0, 0)", 0, 3, OUTSIDE, (net, x) -> net.basin(x, 0, 0));
        range("lone(_)", 0, 3, OUTSIDE, (net, x) -> net.lone(x));
        range("before(_, -1)", 0, 3, OUTSIDE, (net, x) -> net.before(x, -1));
        range("tip(_)", 0, 3, OUTSIDE, (net, x) -> net.tip(x));
    }

    /** "upper (what = 0), lower number (1)", "a SHARE (hundredths, 1 to 100)". */
    private void rises() {
        range("share(_)", 0, 1, OUTSIDE, (net, x) -> net.share(x));
        range("hangs(_, 1)", 0, place.lastState(), OUTSIDE, (net, x) -> net.hangs(x, 1));
        range("hangs(1, _)", 1, 100, OUTSIDE, (net, x) -> net.hangs(1, x));
    }

    /** "0 PLAYERS, .. 4 BAR, 10 and 2 x and y: PAY(x, y)": two ranges with a gap. */
    private void told() {
        for (int x : Edges.within(0, 13)) {
            if (x <= 4 || x >= 10) {
                place.takes("told(" + x + ")", net -> net.told(x));
            } else {
                place.refuses("told(" + x + ")", net -> net.told(x), LOST_OUTSIDE);
            }
        }
        for (int x : Edges.beyond(0, 13)) {
            place.refuses("told(" + x + ")", net -> net.told(x), LOST_OUTSIDE);
        }
    }
}
