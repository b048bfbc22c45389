/** Promises 18 to 24: rises, rest, tipping, the share, sets that hang. */
public final class RisesTest {
    private static final int REPLY = 0;
    private static final int COPY = 1;
    private static final int BAR = 2;
    private static final int IN_TURN = 3;

    public static void main(String[] args) {
        promise18Rise();
        promise18GrowsAsTheWageGrows();
        promise19Highest();
        promise20Rests();
        promise21RestMany();
        promise22Tip();
        promise22TipLeavesAllAsItIs();
        promise23Share();
        promise24Hangs();
        Due.end();
    }

    private static void promise18Rise() {
        GameNet net = Nets.row();
        Nets.pays(net, 5, -1, 2, 6);
        int[] due = {3 * 5, 3 * 3, 0, 7 * 2, 3 * 2, 0, 7 * 3, 7 * 5};
        for (int bits = 0; bits < due.length; bits++) {
            net.state(bits);
            Due.is("18: rise() of " + bits, net.rise(), due[bits]);
        }
    }

    private static void promise18GrowsAsTheWageGrows() {
        GameNet net = Nets.row();
        net.line(0, 2, 7);
        Nets.pays(net, 5, -4, 2, 6);
        for (int bits = 0; bits < 8; bits++) {
            for (int player = 0; player < 3; player++) {
                net.state(bits);
                int grown = net.wage(player, 1) - net.wage(player, 0);
                int from = net.rise();
                net.state(bits ^ 1 << player);
                Due.is("18: " + player + " changes alone in " + bits, net.rise() - from, grown);
            }
        }
    }

    private static void promise19Highest() {
        GameNet net = Nets.row();
        net.state(7);
        Due.is("19: of several the least", net.highest(), 0);
        net.pay(1, 1, 2);
        net.state(0);
        Due.is("19: highest()", net.highest(), 7);
        Due.is("19: the state stays", net.told(3), 0);
        net.hold(1, true);
        Due.is("19: 1 held at 0", net.highest(), 0);
        net.hold(0, true);
        net.state(1);
        Due.is("19: 0 held at 1, 1 at 0", net.highest(), 1);
        net.state(5);
        Due.is("19: 0 held at 1, 1 at 0, from 5", net.highest(), 1);
        net.players(3);
        net.hold(1, true);
        net.state(6);
        Due.is("19: no lines, the least beginning", net.highest(), 2);
    }

    private static void promise20Rests() {
        GameNet net = Nets.row();
        int[] due = {1, 0, 0, 0, 0, 0, 0, 1};
        for (int bits = 0; bits < due.length; bits++) {
            net.state(bits);
            Due.is("20: rests() in " + bits, net.rests(), due[bits]);
        }
        net.state(1);
        net.hold(0, true);
        Due.is("20: only a held one would gain", net.rests(), 1);
        net.hold(0, false);
        Nets.pays(net, 1, 1, 1, 1);
        Due.is("20: as much is no gain", net.rests(), 1);
    }

    private static void promise21RestMany() {
        GameNet net = Nets.row();
        Due.is("21: restMany()", net.restMany(), 2);
        net.hold(0, true);
        net.state(1);
        Due.is("21: restMany(), 0 held at 1", net.restMany(), 2);
        net.hold(1, true);
        Due.is("21: restMany(), 1 held at 0 too", net.restMany(), 1);
        net.hold(2, true);
        Due.is("21: restMany(), all held", net.restMany(), 1);
        net.players(4);
        Due.is("21: restMany(), no lines", net.restMany(), 16);
    }

    private static void promise22Tip() {
        GameNet net = Nets.row();
        Due.is("22: tip(0)", net.tip(REPLY), 2);
        Due.is("22: tip(1)", net.tip(COPY), 3);
        Due.is("22: tip(2)", net.tip(BAR), 2);
        Due.is("22: tip(3)", net.tip(IN_TURN), 2);
        net.bar(40);
        Due.is("22: tip(2), bar 40", net.tip(BAR), 1);
        net.bar(0);
        Due.is("22: tip(2), bar 0: none are needed", net.tip(BAR), 0);

        // All go over to 1 and back again: it is enough that they come through.
        Nets.pays(net, 0, 1, 1, 0);
        Due.is("22: tip(0), paid for being unlike", net.tip(REPLY), 0);

        // Two rows: the sets of two are {0 or 1} and {2 or 3}; the least as bits is {0, 2}.
        Nets.pays(net, 1, 0, 0, 1);
        net.players(4);
        net.line(0, 1, 1);
        net.line(2, 3, 1);
        Due.is("22: tip(0), two rows", net.tip(REPLY), 5);

        net.players(10);
        for (int rule = 0; rule <= 3; rule++) {
            Due.is("22: tip(" + rule + "), no lines: all are needed", net.tip(rule), 1023);
        }
        Due.is("22: tip(4)", net.tip(4), -2);
        Due.is("22: tip(-1)", net.tip(-1), -2);
    }

    private static void promise22TipLeavesAllAsItIs() {
        GameNet net = Nets.row();
        net.hold(0, true);
        net.hold(1, true);
        net.state(4);
        Due.is("22: who is held plays no part", net.tip(REPLY), 2);
        Due.is("22: who is held plays no part", net.tip(IN_TURN), 2);
        Due.is("22: who is held stays", net.told(2), 3);
        Due.is("22: the state stays", net.told(3), 4);
        Due.is("22: the steps stay", net.after(REPLY, 4), 0);
    }

    private static void share(int zeros, int ones, int upper, int lower) {
        GameNet net = new GameNet();
        int zeroZero = Math.min(zeros, 9);
        int oneOne = Math.min(ones, 9);
        Nets.pays(net, zeroZero, oneOne - ones, zeroZero - zeros, oneOne);
        Due.is("23: share(0) of " + zeros + " and " + ones, net.share(0), upper);
        Due.is("23: share(1) of " + zeros + " and " + ones, net.share(1), lower);
        Due.is("23: share(2), first OUTSIDE", net.share(2), -2);
        Due.is("23: share(-1), first OUTSIDE", net.share(-1), -2);
    }

    private static void promise23Share() {
        share(1, 1, 1, 2);
        share(1, 2, 1, 3);
        share(4, 2, 2, 3);
        share(18, 18, 1, 2);
        share(18, 12, 3, 5);
        share(0, 7, 0, 1);
        share(7, 0, 1, 1);
        share(0, 1, 0, 1);
        share(1, 0, 1, 1);
        share(0, 0, -3, -3);
        share(-2, 5, -3, -3);
        share(-1, 2, -3, -3);
        share(2, -1, -3, -3);
        share(1, -1, -3, -3);
        share(-7, -7, -3, -3);
        share(0, -5, -3, -3);
    }

    private static void promise24Hangs() {
        GameNet net = new GameNet();
        net.line(0, 1, 2);
        net.line(1, 2, 3);
        Due.is("24: the empty set", net.hangs(0, 100), 1);
        Due.is("24: one alone", net.hangs(1, 1), 0);
        Due.is("24: hangs(3, 40)", net.hangs(3, 40), 1);
        Due.is("24: hangs(3, 41)", net.hangs(3, 41), 0);
        Due.is("24: hangs(6, 60)", net.hangs(6, 60), 1);
        Due.is("24: hangs(6, 61)", net.hangs(6, 61), 0);
        Due.is("24: hangs(5, 1)", net.hangs(5, 1), 0);
        Due.is("24: hangs(7, 100)", net.hangs(7, 100), 1);
        Due.is("24: one without lines", net.hangs(8, 100), 1);
        Due.is("24: one without lines beside others", net.hangs(11, 41), 0);
        Due.is("24: hangs(16, 50)", net.hangs(16, 50), -2);
        Due.is("24: hangs(-1, 50)", net.hangs(-1, 50), -2);
        Due.is("24: hangs(3, 0)", net.hangs(3, 0), -2);
        Due.is("24: hangs(3, 101)", net.hangs(3, 101), -2);
    }
}
