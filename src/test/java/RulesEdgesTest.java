/** The four rules of a step at their edges; each method holds one sentence of the terms. */
public final class RulesEdgesTest {
    private static final int REPLY = 0;
    private static final int COPY = 1;
    private static final int BAR = 2;
    private static final int IN_TURN = 3;
    private static final int[] SOME_STATES = {0, 1, 2, 341, 511, 512, 682, 1022, 1023};

    public static void main(String[] args) {
        heldNoneOneAll();
        heldOnesKeepTheWayOfTheStateAhead();
        heldOnesCountForTheOthers();
        noLinesNoMove();
        twoPlayers();
        replyItsOwnIfAlike();
        replyForOneMore();
        copyItsOwnIfAsGreat();
        copyOfSeveralTheLeastNumber();
        copyOnlyAlongLines();
        barJustReachedAndJustMissed();
        barNoughtAndWhole();
        barWithoutLines();
        inTurnFromNoughtOn();
        Due.end();
    }

    /** "HELD ones keep their WAY": none of them, each by itself, all of them. */
    private static void heldNoneOneAll() {
        GameNet net = Nets.allWantOne();
        for (int rule : new int[] {REPLY, BAR, IN_TURN}) {
            Due.is("none held, " + rule, net.after(rule, 0), 1023);
        }
        Due.is("none held, COPY", net.after(COPY, 1), 1023);
        for (int player = 0; player < 10; player++) {
            net.hold(player, true);
            int without = 1023 - (1 << player);
            for (int rule : new int[] {REPLY, BAR, IN_TURN}) {
                Due.is(player + " held, " + rule, net.after(rule, 0), without);
            }
            int one = player == 0 ? 2 : 1;
            Due.is(player + " held, COPY", net.after(COPY, one), without);
            net.hold(player, false);
        }
        Nets.holdAll(net);
        for (int rule = 0; rule <= 3; rule++) {
            for (int bits : SOME_STATES) {
                Due.is("all held, " + rule, net.after(rule, bits), bits);
            }
        }
        net.hold(9, false);
        for (int rule : new int[] {REPLY, BAR, IN_TURN}) {
            Due.is("all but 9 held, " + rule, net.after(rule, 0), 512);
        }
        Due.is("all but 9 held, COPY", net.after(COPY, 1), 513);
    }

    private static void heldOnesKeepTheWayOfTheStateAhead() {
        GameNet net = Nets.allWantOne();
        net.hold(3, true);
        for (int way = 0; way <= 1; way++) {
            net.state(way << 3);
            for (int rule : new int[] {REPLY, BAR, IN_TURN}) {
                Due.is("3 held, " + rule + ", 0 ahead", net.after(rule, 0), 1015);
                Due.is("3 held, " + rule + ", 1 ahead", net.after(rule, 8), 1023);
            }
            Due.is("12: the state stays", net.told(3), way << 3);
        }
    }

    /** They never change, but are beside the others and may be copied. */
    private static void heldOnesCountForTheOthers() {
        GameNet net = Nets.row();
        net.hold(1, true);
        Due.is("held beside, REPLY", net.after(REPLY, 2), 7);
        Due.is("held beside, BAR", net.after(BAR, 2), 7);
        Due.is("held beside, IN TURN", net.after(IN_TURN, 2), 7);
        net.pay(1, 0, 1);
        Due.is("held beside, COPY", net.after(COPY, 2), 7);
    }

    /** Both WAYS are paid alike: nothing; there is none to copy; no LINES, no BAR. */
    private static void noLinesNoMove() {
        for (int n = 2; n <= 10; n++) {
            GameNet net = new GameNet();
            net.players(n);
            Nets.pays(net, 9, -9, -9, 9);
            for (int bar : new int[] {0, 100}) {
                net.bar(bar);
                for (int rule = 0; rule <= 3; rule++) {
                    for (int bits : new int[] {0, 1, 1 << n - 1, (1 << n) - 1}) {
                        Due.is("no lines, " + rule, net.after(rule, bits), bits);
                    }
                }
            }
        }
    }

    private static void twoPlayers() {
        GameNet net = Nets.full(2, 9);
        Nets.follow("two, REPLY", net, REPLY, 0, 2, 1, 3);
        Nets.follow("two, COPY", net, COPY, 0, 1, 2, 3);
        Nets.follow("two, BAR", net, BAR, 0, 2, 1, 3);
        Nets.follow("two, IN TURN", net, IN_TURN, 0, 0, 3, 3);
        int[] ends = {3, 4, 3, 2};
        for (int rule = 0; rule <= 3; rule++) {
            Due.is("two, end(" + rule + ", -1)", net.end(rule, -1), ends[rule]);
            Due.is("two, the last end", net.end(rule, ends[rule] - 1), 3);
            Due.is("two, the i behind it", net.end(rule, ends[rule]), -6);
        }
        net.hold(1, true);
        Nets.follow("two, 1 held, REPLY", net, REPLY, 0, 0, 3, 3);
        Nets.follow("two, 1 held, COPY", net, COPY, 0, 1, 2, 3);
        Nets.follow("two, 1 held, BAR", net, BAR, 0, 0, 3, 3);
        Nets.follow("two, 1 held, IN TURN", net, IN_TURN, 0, 0, 3, 3);
    }

    /** "its own, if both are alike", be it 0 or 1. */
    private static void replyItsOwnIfAlike() {
        GameNet net = Nets.full(10, 9);
        Nets.pays(net, 5, -3, 5, -3);
        for (int bits : SOME_STATES) {
            Due.is("alike for all, REPLY", net.after(REPLY, bits), bits);
            Due.is("alike for all, IN TURN", net.after(IN_TURN, bits), bits);
        }
        // 1 stands between 0, who plays 0, and 2, who plays 1, both by lines of one weight.
        net = new GameNet();
        net.players(3);
        net.line(0, 1, 9);
        net.line(1, 2, 9);
        net.hold(0, true);
        net.hold(2, true);
        Nets.follow("in the midst, REPLY", net, REPLY, 0, 1, 0, 3, 4, 7, 6, 7);
        Nets.follow("in the midst, IN TURN", net, IN_TURN, 0, 1, 0, 3, 4, 7, 6, 7);
    }

    /** "the WAY that would have the greater WAGE": a lead of 1, up or down, is enough. */
    private static void replyForOneMore() {
        GameNet net = new GameNet();
        net.players(3);
        net.line(0, 1, 8);
        net.line(1, 2, 9);
        net.hold(0, true);
        net.hold(2, true);
        Nets.follow("one more, REPLY", net, REPLY, 0, 1, 0, 1, 6, 7, 6, 7);
        Nets.follow("one more, IN TURN", net, IN_TURN, 0, 1, 0, 1, 6, 7, 6, 7);
    }

    /** "its own, if its WAGE is as great": though another plays unlike and has a lesser number. */
    private static void copyItsOwnIfAsGreat() {
        GameNet net = Nets.full(2, 1);
        Nets.pays(net, 0, 5, 5, 0);
        Nets.follow("as great, COPY", net, COPY, 0, 1, 2, 3);
        net.pay(1, 0, 6);
        Nets.follow("1 earns one more, COPY", net, COPY, 0, 3, 3, 3);
        net.pay(1, 0, 4);
        Nets.follow("1 earns one less, COPY", net, COPY, 0, 0, 0, 3);
    }

    /** "else of several the least number": the first and the last of those beside it. */
    private static void copyOfSeveralTheLeastNumber() {
        GameNet net = Nets.star(10, 1);
        // All the leaves earn -1 beside the centre's 0; it earns -9 or less by nine of them.
        Nets.pays(net, -1, -9, -1, 0);
        Due.is("0 plays 1, 1 to 8 play 0", net.after(COPY, 1) & 512, 512);
        Due.is("0 plays 0, 1 to 8 play 1", net.after(COPY, 510) & 512, 0);
        Due.is("0 and 8 play 1", net.after(COPY, 257) & 512, 512);
        Due.is("8 alone plays 1", net.after(COPY, 256) & 512, 0);
        net.line(0, 9, 0);
        Due.is("1 is the least with a line, and plays 1", net.after(COPY, 2) & 512, 512);
        Due.is("1 is the least with a line, and plays 0", net.after(COPY, 509) & 512, 0);
    }

    /** "of itself and those it has a LINE with". */
    private static void copyOnlyAlongLines() {
        GameNet net = new GameNet();
        net.players(4);
        net.line(0, 1, 1);
        net.line(1, 2, 9);
        Nets.pays(net, 1, 0, 9, 0);
        // 2 plays 1 and earns 81; 1 has a line with it, 0 has none, 3 has none at all.
        Due.is("along lines, COPY", net.after(COPY, 4), 6);
        Due.is("one without lines keeps 1", net.after(COPY, 12), 14);
        net.line(3, 2, 1);
        Due.is("the least line is enough", net.after(COPY, 4), 14);
    }

    /** "100 times the WEIGHTS of those that play 1 is BAR times all its WEIGHTS, or more". */
    private static void barJustReachedAndJustMissed() {
        // Player 9 has nine lines of weight 9: with m ones beside it, its part is m of 9.
        for (int ones = 0; ones <= 9; ones++) {
            int reached = 100 * ones / 9;
            int bits = (1 << ones) - 1;
            for (int own = 0; own <= 512; own += 512) {
                GameNet net = Nets.star(10, 9);
                net.bar(reached);
                Due.is(ones + " of 9 at " + reached, net.after(BAR, bits + own) & 512, 512);
                net.bar(Math.min(reached + 1, 100));
                Due.is(ones + " of 9 above " + reached, net.after(BAR, bits + own) & 512,
                        ones == 9 ? 512 : 0);
            }
        }
        // Two lines of weights 1 and 3: a fourth, three fourths, just so.
        for (int bar = 0; bar <= 100; bar++) {
            GameNet net = new GameNet();
            net.players(3);
            net.line(0, 1, 1);
            net.line(1, 2, 3);
            net.bar(bar);
            Due.is("none at " + bar, net.after(BAR, 2) & 2, bar == 0 ? 2 : 0);
            Due.is("a fourth at " + bar, net.after(BAR, 1) & 2, bar <= 25 ? 2 : 0);
            Due.is("three fourths at " + bar, net.after(BAR, 4) & 2, bar <= 75 ? 2 : 0);
            Due.is("all at " + bar, net.after(BAR, 5) & 2, 2);
        }
    }

    /** BAR 0 is reached by none that play 1; BAR 100 by all of them alone. */
    private static void barNoughtAndWhole() {
        GameNet net = Nets.full(10, 9);
        net.bar(0);
        for (int bits : SOME_STATES) {
            Due.is("BAR 0 in " + bits, net.after(BAR, bits), 1023);
        }
        net.bar(1);
        Due.is("BAR 1 in 0", net.after(BAR, 0), 0);
        Due.is("BAR 1 in 1", net.after(BAR, 1), 1022);
        Due.is("BAR 1 in 3", net.after(BAR, 3), 1023);
        net.bar(100);
        Due.is("BAR 100 in 1023", net.after(BAR, 1023), 1023);
        for (int player = 0; player < 10; player++) {
            Due.is("BAR 100 but for one", net.after(BAR, 1023 - (1 << player)), 1 << player);
        }
    }

    /** "one without LINES keeps its WAY", also where others have some. */
    private static void barWithoutLines() {
        GameNet net = new GameNet();
        net.players(3);
        net.line(0, 2, 1);
        net.bar(0);
        Nets.follow("1 without lines, BAR 0", net, BAR, 5, 5, 7, 7, 5, 5, 7, 7);
        net.bar(100);
        Nets.follow("1 without lines, BAR 100", net, BAR, 0, 4, 2, 6, 1, 5, 3, 7);
    }

    /** "PLAYER by PLAYER from 0 on each REPLIES to what is then (HELD ones do not)". */
    private static void inTurnFromNoughtOn() {
        GameNet net = Nets.fallingRow();
        Due.is("0 itself replies first", net.after(IN_TURN, 1), 0);
        Due.is("0 plays 0 beside 1, who plays 1", net.after(IN_TURN, 2), 1023);
        net.hold(0, true);
        Due.is("down the row in one step", net.after(IN_TURN, 1), 1023);
        Due.is("all at once go one on", net.after(REPLY, 1), 3);
        net.hold(5, true);
        Due.is("down to one that is held", net.after(IN_TURN, 1), 31);

        net = Nets.risingRow();
        net.hold(9, true);
        Due.is("up the row one each step", net.after(IN_TURN, 512), 768);
        Due.is("the last replies too", Nets.risingRow().after(IN_TURN, 512), 768);
    }
}
