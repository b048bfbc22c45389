/** "An object is used for at most 512 calls after it has been made": the last is as the first. */
public final class CallsTest {
    private static final int REPLY = 0;
    private static final int CALLS = 512;

    public static void main(String[] args) {
        stepsAllTheWay();
        changesAllTheWay();
        refusalsAllTheWay();
        dearestCallsAllTheWay();
        Due.end();
    }

    /** Each of two players takes the other's way: an odd number of steps turns them round. */
    private static void stepsAllTheWay() {
        GameNet net = new GameNet();
        net.players(2);
        net.line(0, 1, 1);
        net.state(1);
        int due = 1;
        for (int call = 4; call <= CALLS; call++) {
            due = 3 - due;
            Due.is("call " + call + ": step(0, 99)", net.step(REPLY, 99), due);
        }
    }

    private static void changesAllTheWay() {
        GameNet net = new GameNet();
        net.players(10);
        for (int call = 2; call < CALLS; call += 2) {
            net.line(0, 9, call / 2 % 10);
            Due.is("call " + (call + 1) + ": weight(9, 0)", net.weight(9, 0), call / 2 % 10);
        }
        Due.is("call 512: told(1)", net.told(1), 1);
    }

    private static void refusalsAllTheWay() {
        GameNet net = Nets.row();
        for (int call = 4; call < CALLS; call++) {
            Due.is("call " + call + ": players(11)", net.players(11), -2);
        }
        Due.is("call 512: end(0, -1)", net.end(REPLY, -1), 3);
    }

    /** Ten players with all lines, and another game ahead of each call. */
    private static void dearestCallsAllTheWay() {
        GameNet net = Nets.full(10, 9);
        for (int call = 47; call < CALLS; call += 2) {
            int one = call / 2 % 2;
            net.pay(1, 1, 1 + one);
            // A pay of 2 tips a player by a third of its nine lines and ties there; else by half.
            Due.is("call " + (call + 1) + ": tip(0)", net.tip(REPLY), one == 1 ? 15 : 31);
        }
    }
}
