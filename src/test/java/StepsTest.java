/** Promises 11 to 17: steps by the four rules, and where they lead. */
public final class StepsTest {
    private static final int REPLY = 0;
    private static final int COPY = 1;
    private static final int BAR = 2;
    private static final int IN_TURN = 3;

    public static void main(String[] args) {
        promise11Step();
        promise12AfterByReply();
        promise12AfterByCopy();
        promise12AfterByBar();
        promise12AfterInTurn();
        promise12AfterHeld();
        promise12AfterRefused();
        promise13Goes();
        promise14End();
        promise15Basin();
        promise16Lone();
        promise17Before();
        longWays();
        changesAreSeen();
        asManyAsMayBe();
        Due.end();
    }

    private static void promise11Step() {
        GameNet net = Nets.row();
        net.state(4);
        Due.is("11: step(0, 1)", net.step(REPLY, 1), 2);
        Due.is("11: the state", net.told(3), 2);
        Due.is("11: step(0, 2)", net.step(REPLY, 2), 2);
        Due.is("11: step(0, 99)", net.step(REPLY, 99), 5);
        Due.is("11: step(0, 100)", net.step(REPLY, 100), 5);
        Due.is("11: step(3, 1)", net.step(IN_TURN, 1), 6);
        Due.is("11: step(1, 1)", net.step(COPY, 1), 7);
        net.state(3);
        Due.is("11: step(2, 1)", net.step(BAR, 1), 5);
        Due.is("11: step(0, 0)", net.step(REPLY, 0), -2);
        Due.is("11: step(0, 101)", net.step(REPLY, 101), -2);
        Due.is("11: step(0, -1)", net.step(REPLY, -1), -2);
        Due.is("11: step(-1, 1)", net.step(-1, 1), -2);
        Due.is("11: step(4, 1)", net.step(4, 1), -2);
        Due.is("11: refused, the state stays", net.told(3), 5);
        net.hold(1, true);
        Due.is("11: step(0, 1), 1 held", net.step(REPLY, 1), 0);
        net.hold(2, true);
        net.state(6);
        net.bar(100);
        Due.is("11: step(2, 1), 1 and 2 held", net.step(BAR, 1), 7);
    }

    private static void promise12AfterByReply() {
        GameNet net = Nets.row();
        Nets.follow("12 REPLY", net, REPLY, 0, 0, 5, 5, 2, 2, 7, 7);
        Due.is("12: the state stays", net.told(3), 0);

        // Both lines of one weight: the one in the midst keeps its way between unlike ones.
        net.line(0, 1, 3);
        Nets.follow("12 REPLY, alike", net, REPLY, 0, 0, 5, 7, 0, 2, 7, 7);

        // Paid for being unlike: all go over at once.
        Nets.pays(net, 0, 1, 1, 0);
        Due.is("12 REPLY, unlike", net.after(REPLY, 0), 7);
        Due.is("12 REPLY, unlike", net.after(REPLY, 7), 0);
        Due.is("12 REPLY, unlike", net.after(REPLY, 2), 2);

        net.players(4);
        Due.is("12 REPLY: without lines each keeps its way", net.after(REPLY, 9), 9);
    }

    private static void promise12AfterByCopy() {
        GameNet net = Nets.row();
        Nets.follow("12 COPY", net, COPY, 0, 0, 2, 7, 0, 5, 7, 7);

        // In the row 0 to 4 both neighbours of 2 earn 2 and play unlike ways: the lesser is 1.
        net.players(5);
        net.line(0, 1, 2);
        net.line(1, 2, 1);
        net.line(2, 3, 1);
        net.line(3, 4, 1);
        Due.is("12 COPY: of several the least number, a 0", net.after(COPY, 28), 24);
        Due.is("12 COPY: of several the least number, a 1", net.after(COPY, 3), 7);

        net.players(2);
        net.line(0, 1, 1);
        Due.is("12 COPY: its own, if as great", net.after(COPY, 1), 1);
        Due.is("12 COPY: its own, if as great", net.after(COPY, 2), 2);

        net.pay(1, 0, 5);
        Due.is("12 COPY: of 0, who earns more", net.after(COPY, 1), 3);
        Due.is("12 COPY: of 1, who earns more", net.after(COPY, 2), 3);
        net.pay(1, 0, 0);

        net.players(4);
        net.line(0, 1, 1);
        net.line(2, 3, 9);
        Due.is("12 COPY: only of those beside it", net.after(COPY, 12), 12);
        Due.is("12 COPY: only of those beside it", net.after(COPY, 3), 3);

        // One who earns 0 and has no line with it is no pattern for one who earns less than 0.
        net.players(3);
        Nets.pays(net, -2, -1, 0, 0);
        net.line(0, 1, 1);
        Due.is("12 COPY: wages below 0", net.after(COPY, 4), 4);
        Due.is("12 COPY: wages below 0", net.after(COPY, 1), 3);
    }

    private static void promise12AfterByBar() {
        GameNet net = Nets.row();
        Nets.follow("12 BAR 50", net, BAR, 0, 0, 5, 5, 2, 2, 7, 7);
        net.bar(40);
        Nets.follow("12 BAR 40, just reached", net, BAR, 0, 2, 5, 7, 2, 2, 7, 7);
        net.bar(41);
        Nets.follow("12 BAR 41, just missed", net, BAR, 0, 0, 5, 5, 2, 2, 7, 7);
        net.bar(100);
        Nets.follow("12 BAR 100", net, BAR, 0, 0, 5, 5, 0, 2, 5, 7);
        net.bar(0);
        Nets.follow("12 BAR 0", net, BAR, 7, 7, 7, 7, 7, 7, 7, 7);
        net.line(1, 2, 0);
        Nets.follow("12 BAR 0, 2 without lines", net, BAR, 3, 3, 3, 3, 7, 7, 7, 7);
        net.bar(100);
        Due.is("12 BAR 100, 2 without lines", net.after(BAR, 4), 4);
        Nets.pays(net, 9, 9, -9, -9);
        Due.is("12 BAR: pays play no part", net.after(BAR, 7), 7);
    }

    private static void promise12AfterInTurn() {
        GameNet net = Nets.row();
        Nets.follow("12 IN TURN", net, IN_TURN, 0, 0, 1, 1, 6, 6, 7, 7);
    }

    private static void promise12AfterHeld() {
        GameNet net = Nets.row();
        net.hold(1, true);
        Nets.follow("12 REPLY, 1 held", net, REPLY, 0, 0, 7, 7, 0, 0, 7, 7);
        Nets.follow("12 BAR, 1 held", net, BAR, 0, 0, 7, 7, 0, 0, 7, 7);
        Nets.follow("12 IN TURN, 1 held", net, IN_TURN, 0, 0, 7, 7, 0, 0, 7, 7);
        net.hold(1, false);
        net.hold(0, true);
        Nets.follow("12 COPY, 0 held", net, COPY, 0, 1, 2, 7, 0, 5, 6, 7);
        Nets.follow("12 IN TURN, 0 held", net, IN_TURN, 0, 1, 0, 1, 6, 7, 6, 7);
        net.bar(0);
        Due.is("12 BAR 0, 0 held", net.after(BAR, 0), 6);
    }

    private static void promise12AfterRefused() {
        GameNet net = Nets.row();
        Due.is("12: after(-1, 0)", net.after(-1, 0), -2);
        Due.is("12: after(4, 0)", net.after(4, 0), -2);
        Due.is("12: after(0, 8)", net.after(REPLY, 8), -2);
        Due.is("12: after(3, -1)", net.after(IN_TURN, -1), -2);
    }

    private static void goes(String where, GameNet net, int rule,
            int tail, int ring, int least, int first) {
        Due.is(where + ": tail", net.goes(rule, 0), tail);
        Due.is(where + ": ring", net.goes(rule, 1), ring);
        Due.is(where + ": least of the ring", net.goes(rule, 2), least);
        Due.is(where + ": first that comes again", net.goes(rule, 3), first);
    }

    private static void promise13Goes() {
        GameNet net = Nets.row();
        net.state(3);
        goes("13 REPLY from 3", net, REPLY, 1, 2, 2, 5);
        goes("13 IN TURN from 3", net, IN_TURN, 2, 1, 0, 0);
        goes("13 COPY from 3", net, COPY, 1, 1, 7, 7);
        net.state(4);
        goes("13 REPLY from 4", net, REPLY, 1, 2, 2, 2);
        net.state(5);
        goes("13 REPLY from 5", net, REPLY, 0, 2, 2, 5);
        goes("13 COPY from 5", net, COPY, 0, 1, 5, 5);
        net.hold(1, true);
        goes("13 REPLY from 5, 1 held", net, REPLY, 1, 1, 0, 0);
        Due.is("13: the state stays", net.told(3), 5);
        net.state(2);
        goes("13 REPLY from 2, 1 held", net, REPLY, 1, 1, 7, 7);
        net.hold(1, false);
        net.players(3);
        net.pay(1, 1, 2);
        net.line(0, 2, 1);
        net.line(1, 2, 1);
        Nets.follow("13 REPLY", net, REPLY, 0, 4, 4, 4, 3, 7, 7, 7);
        net.state(1);
        goes("13 REPLY from 1, not to the least of the ring", net, REPLY, 1, 2, 3, 4);
        Due.is("13: goes(0, 4)", net.goes(REPLY, 4), -2);
        Due.is("13: goes(0, -1)", net.goes(REPLY, -1), -2);
        Due.is("13: goes(4, 0)", net.goes(4, 0), -2);
        Due.is("13: goes(-1, 0)", net.goes(-1, 0), -2);
    }

    private static void promise14End() {
        GameNet net = Nets.row();
        Due.is("14: end(0, -1)", net.end(REPLY, -1), 3);
        Due.is("14: end(0, 0)", net.end(REPLY, 0), 0);
        Due.is("14: end(0, 1)", net.end(REPLY, 1), 2);
        Due.is("14: end(0, 2)", net.end(REPLY, 2), 7);
        Due.is("14: end(0, 3)", net.end(REPLY, 3), -6);
        Due.is("14: end(0, -2)", net.end(REPLY, -2), -6);
        Due.is("14: end(1, -1)", net.end(COPY, -1), 4);
        Due.is("14: end(1, 2)", net.end(COPY, 2), 5);
        Due.is("14: end(3, -1)", net.end(IN_TURN, -1), 2);
        Due.is("14: end(3, 1)", net.end(IN_TURN, 1), 7);
        net.hold(1, true);
        net.state(2);
        Due.is("14: end(0, -1), 1 held at 1", net.end(REPLY, -1), 1);
        Due.is("14: end(0, 0), 1 held at 1", net.end(REPLY, 0), 7);
        net.state(5);
        Due.is("14: end(0, -1), 1 held at 0", net.end(REPLY, -1), 1);
        Due.is("14: end(0, 0), 1 held at 0", net.end(REPLY, 0), 0);
        Due.is("14: end(4, -1)", net.end(4, -1), -2);
        Due.is("14: end(-1, 0)", net.end(-1, 0), -2);
        Due.is("14: end(4, 99): first OUTSIDE", net.end(4, 99), -2);
    }

    private static void basin(String where, GameNet net, int rule, int i,
            int many, int ring, int tail) {
        Due.is(where + ": how many", net.basin(rule, i, 0), many);
        Due.is(where + ": ring", net.basin(rule, i, 1), ring);
        Due.is(where + ": greatest tail", net.basin(rule, i, 2), tail);
    }

    private static void promise15Basin() {
        GameNet net = Nets.row();
        basin("15 REPLY END 0", net, REPLY, 0, 2, 1, 1);
        basin("15 REPLY END 1", net, REPLY, 1, 4, 2, 1);
        basin("15 REPLY END 2", net, REPLY, 2, 2, 1, 1);
        basin("15 REPLY END 3", net, REPLY, 3, -6, -6, -6);
        basin("15 REPLY END -1", net, REPLY, -1, -6, -6, -6);
        basin("15 IN TURN END 0", net, IN_TURN, 0, 4, 1, 2);
        basin("15 COPY END 1", net, COPY, 1, 1, 1, 0);
        net.hold(1, true);
        net.state(2);
        basin("15 REPLY END 0, 1 held", net, REPLY, 0, 4, 1, 1);
        net.players(2);
        net.line(0, 1, 1);
        net.bar(0);
        net.hold(1, true);
        basin("15 BAR 0 END 0, 1 held at 0", net, BAR, 0, 2, 1, 1);
        Due.is("15: basin(4, 0, 0)", net.basin(4, 0, 0), -2);
        Due.is("15: basin(-1, 0, 0)", net.basin(-1, 0, 0), -2);
        Due.is("15: basin(0, 0, 3)", net.basin(REPLY, 0, 3), -2);
        Due.is("15: basin(0, 0, -1)", net.basin(REPLY, 0, -1), -2);
        Due.is("15: first OUTSIDE", net.basin(REPLY, 99, 3), -2);
    }

    private static void promise16Lone() {
        GameNet net = Nets.row();
        Due.is("16: lone(0)", net.lone(REPLY), 4);
        Due.is("16: lone(1)", net.lone(COPY), 4);
        Due.is("16: lone(2)", net.lone(BAR), 4);
        Due.is("16: lone(3)", net.lone(IN_TURN), 4);
        net.hold(1, true);
        net.state(2);
        Due.is("16: lone(0), 1 held", net.lone(REPLY), 3);
        net.hold(1, false);
        net.hold(0, true);
        Due.is("16: lone(3), 0 held at 0", net.lone(IN_TURN), 2);
        net.hold(0, false);
        net.bar(0);
        Due.is("16: lone(2), bar 0", net.lone(BAR), 7);
        net.players(2);
        Due.is("16: lone(0), no lines", net.lone(REPLY), 0);
        Due.is("16: lone(4)", net.lone(4), -2);
        Due.is("16: lone(-1)", net.lone(-1), -2);
    }

    private static void promise17Before() {
        GameNet net = Nets.row();
        net.state(5);
        Due.is("17: before(0, -1)", net.before(REPLY, -1), 2);
        Due.is("17: before(0, 0)", net.before(REPLY, 0), 2);
        Due.is("17: before(0, 1)", net.before(REPLY, 1), 3);
        Due.is("17: before(0, 2)", net.before(REPLY, 2), -6);
        Due.is("17: before(0, -2)", net.before(REPLY, -2), -6);
        Due.is("17: before(3, -1)", net.before(IN_TURN, -1), 0);
        Due.is("17: before(3, 0)", net.before(IN_TURN, 0), -6);
        net.hold(1, true);
        net.state(7);
        Due.is("17: before(0, -1), 1 held", net.before(REPLY, -1), 4);
        Due.is("17: before(0, 3), 1 held", net.before(REPLY, 3), 7);
        net.hold(1, false);
        net.bar(0);
        Due.is("17: before(2, -1), bar 0", net.before(BAR, -1), 8);
        Due.is("17: before(2, 0), bar 0", net.before(BAR, 0), 0);
        Due.is("17: before(4, 0)", net.before(4, 0), -2);
        Due.is("17: before(-1, -1)", net.before(-1, -1), -2);
    }

    /** A row of four whose first is held at 1: one after the other the rest go over. */
    private static void longWays() {
        GameNet net = new GameNet();
        net.line(0, 1, 1);
        net.line(1, 2, 1);
        net.line(2, 3, 1);
        net.hold(0, true);
        int[][] tails = {{1, 3}, {3, 2}, {5, 3}, {7, 1}, {9, 2}, {11, 2}, {13, 1}, {15, 0}};
        for (int[] row : tails) {
            net.state(row[0]);
            goes("long from " + row[0], net, BAR, row[1], 1, 15, 15);
        }
        basin("long END 0", net, BAR, 0, 8, 1, 3);
        Due.is("long: lone(2)", net.lone(BAR), 4);
        net.state(7);
        Due.is("long: before(2, -1)", net.before(BAR, -1), 3);
        Due.is("long: before(2, 1)", net.before(BAR, 1), 9);
        net.state(1);
        Due.is("long: step(2, 2)", net.step(BAR, 2), 7);
    }

    /** Ten players, each with lines to all: the greatest net that there is. */
    private static void asManyAsMayBe() {
        GameNet net = new GameNet();
        net.players(10);
        for (int a = 0; a < 10; a++) {
            for (int b = 0; b < a; b++) {
                net.line(a, b, 9);
            }
        }
        net.state(1023);
        Due.is("ten: told(1)", net.told(1), 45);
        Due.is("ten: sum()", net.sum(), 810);
        Due.is("ten: rise()", net.rise(), 405);
        Due.is("ten: highest()", net.highest(), 0);
        Due.is("ten: restMany()", net.restMany(), 2);
        Due.is("ten: hangs(1023, 100)", net.hangs(1023, 100), 1);
        // Half of those beside one would be 4 and a half: with 5 held all go over in turn.
        Due.is("ten: tip(3)", net.tip(IN_TURN), 31);
        net.bar(0);
        basin("ten END 0", net, BAR, 0, 1024, 1, 1);
        Due.is("ten: end(2, -1)", net.end(BAR, -1), 1);
        Due.is("ten: lone(2)", net.lone(BAR), 1023);
        Due.is("ten: before(2, -1)", net.before(BAR, -1), 1024);
        Due.is("ten: before(2, 1023)", net.before(BAR, 1023), 1023);
        Due.is("ten: before(2, 1024)", net.before(BAR, 1024), -6);
        Due.is("ten: step(1, 100)", net.step(COPY, 100), 1023);
        net.players(10);
        for (int rule = 0; rule <= 3; rule++) {
            Due.is("ten: end(" + rule + ", -1), no lines", net.end(rule, -1), 1024);
            Due.is("ten: end(" + rule + ", 1023), no lines", net.end(rule, 1023), 1023);
            Due.is("ten: end(" + rule + ", 1024), no lines", net.end(rule, 1024), -6);
        }
    }

    /** Nothing that an earlier call has worked out may outlive a change of what it came from. */
    private static void changesAreSeen() {
        GameNet net = Nets.row();
        Due.is("seen: end(2, -1)", net.end(BAR, -1), 3);
        net.bar(0);
        Due.is("seen, bar: end(2, -1)", net.end(BAR, -1), 1);
        net.bar(50);
        Due.is("seen: end(2, -1)", net.end(BAR, -1), 3);
        net.line(1, 2, 2);
        // Weights 2 and 2: the one in the midst is over the bar by one of the two.
        Due.is("seen, line: end(2, 1)", net.end(BAR, 1), 2);
        Due.is("seen, line: basin(2, 2, 0)", net.basin(BAR, 2, 0), 3);
        Due.is("seen: end(0, -1)", net.end(REPLY, -1), 3);
        net.pay(1, 0, 2);
        net.pay(1, 1, 2);
        Due.is("seen, pay: end(0, -1)", net.end(REPLY, -1), 1);
        Due.is("seen, pay: end(0, 0)", net.end(REPLY, 0), 7);
        net.hold(0, true);
        Due.is("seen, hold: end(0, 0)", net.end(REPLY, 0), 6);
        net.state(1);
        Due.is("seen, state: end(0, 0)", net.end(REPLY, 0), 7);
        net.hold(0, false);
        net.players(4);
        Due.is("seen, players: end(0, -1)", net.end(REPLY, -1), 16);
    }
}
