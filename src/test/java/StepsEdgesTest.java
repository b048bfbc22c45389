/** Promises 11 to 17 and the rules of a step at their edges; each method holds one sentence. */
public final class StepsEdgesTest {
    private static final int REPLY = 0;
    private static final int COPY = 1;
    private static final int BAR = 2;
    private static final int IN_TURN = 3;
    private static final int[] SOME_STATES = {0, 1, 2, 341, 511, 512, 682, 1022, 1023};

    public static void main(String[] args) {
        heldNoneOneAll();
        heldOnesKeepTheWayOfTheStateAhead();
        heldOnesCountForTheOthers();
        noLinesNoMove();
        twoPlayers();
        replyItsOwnIfAlike();
        replyForOneMore();
        copyItsOwnIfAsGreat();
        copyOfSeveralTheLeastNumber();
        copyOnlyAlongLines();
        barJustReachedAndJustMissed();
        barNoughtAndWhole();
        barWithoutLines();
        inTurnFromNoughtOn();
        promise11OneStepAndAHundred();
        promise11AllHeld();
        promise12FirstAndLastState();
        promise13TailNought();
        promise13LongTail();
        promise13LongRing();
        promise13FirstThatComesAgain();
        promise14OneEnd();
        promise14AsManyEndsAsBeginnings();
        promise14InOrderByTheLeast();
        promise14Held();
        promise15FirstAndLastEnd();
        promise15AllBeginningsComeSomewhere();
        promise15TailNought();
        promise16NoneAndMost();
        promise17NoneAndAll();
        promise17FirstAndLast();
        Due.end();
    }

    /** Ten players, all lines; playing 1 is paid best beside anyone, and every bar is reached. */
    private static GameNet allWantOne() {
        GameNet net = Nets.full(10, 9);
        Nets.pays(net, -9, -9, 9, 9);
        net.bar(0);
        return net;
    }

    /** Six players, COPY: 1, 3, 33, 47, 45, 13, 15 and 1 again. */
    private static GameNet ringOfSeven() {
        GameNet net = new GameNet();
        net.players(6);
        net.line(0, 1, 1);
        net.line(1, 4, 1);
        net.line(1, 5, 1);
        net.line(5, 2, 1);
        net.line(5, 3, 1);
        Nets.pays(net, -4, 3, 2, -6);
        return net;
    }

    /** "HELD ones keep their WAY": none of them, each by itself, all of them. */
    private static void heldNoneOneAll() {
        GameNet net = allWantOne();
        for (int rule : new int[] {REPLY, BAR, IN_TURN}) {
            Due.is("none held, " + rule, net.after(rule, 0), 1023);
        }
        Due.is("none held, COPY", net.after(COPY, 1), 1023);
        for (int player = 0; player < 10; player++) {
            net.hold(player, true);
            int without = 1023 - (1 << player);
            for (int rule : new int[] {REPLY, BAR, IN_TURN}) {
                Due.is(player + " held, " + rule, net.after(rule, 0), without);
            }
            int one = player == 0 ? 2 : 1;
            Due.is(player + " held, COPY", net.after(COPY, one), without);
            net.hold(player, false);
        }
        Nets.holdAll(net);
        for (int rule = 0; rule <= 3; rule++) {
            for (int bits : SOME_STATES) {
                Due.is("all held, " + rule, net.after(rule, bits), bits);
            }
        }
        net.hold(9, false);
        for (int rule : new int[] {REPLY, BAR, IN_TURN}) {
            Due.is("all but 9 held, " + rule, net.after(rule, 0), 512);
        }
        Due.is("all but 9 held, COPY", net.after(COPY, 1), 513);
    }

    private static void heldOnesKeepTheWayOfTheStateAhead() {
        GameNet net = allWantOne();
        net.hold(3, true);
        for (int way = 0; way <= 1; way++) {
            net.state(way << 3);
            for (int rule : new int[] {REPLY, BAR, IN_TURN}) {
                Due.is("3 held, " + rule + ", 0 ahead", net.after(rule, 0), 1015);
                Due.is("3 held, " + rule + ", 1 ahead", net.after(rule, 8), 1023);
            }
            Due.is("12: the state stays", net.told(3), way << 3);
        }
    }

    /** They never change, but are beside the others and may be copied. */
    private static void heldOnesCountForTheOthers() {
        GameNet net = Nets.row();
        net.hold(1, true);
        Due.is("held beside, REPLY", net.after(REPLY, 2), 7);
        Due.is("held beside, BAR", net.after(BAR, 2), 7);
        Due.is("held beside, IN TURN", net.after(IN_TURN, 2), 7);
        net.pay(1, 0, 1);
        Due.is("held beside, COPY", net.after(COPY, 2), 7);
    }

    /** Both WAYS are paid alike: nothing; there is none to copy; no LINES, no BAR. */
    private static void noLinesNoMove() {
        for (int n = 2; n <= 10; n++) {
            GameNet net = new GameNet();
            net.players(n);
            Nets.pays(net, 9, -9, -9, 9);
            for (int bar : new int[] {0, 100}) {
                net.bar(bar);
                for (int rule = 0; rule <= 3; rule++) {
                    for (int bits : new int[] {0, 1, 1 << n - 1, (1 << n) - 1}) {
                        Due.is("no lines, " + rule, net.after(rule, bits), bits);
                    }
                }
            }
        }
    }

    private static void twoPlayers() {
        GameNet net = Nets.full(2, 9);
        Nets.follow("two, REPLY", net, REPLY, 0, 2, 1, 3);
        Nets.follow("two, COPY", net, COPY, 0, 1, 2, 3);
        Nets.follow("two, BAR", net, BAR, 0, 2, 1, 3);
        Nets.follow("two, IN TURN", net, IN_TURN, 0, 0, 3, 3);
        int[] ends = {3, 4, 3, 2};
        for (int rule = 0; rule <= 3; rule++) {
            Due.is("two, end(" + rule + ", -1)", net.end(rule, -1), ends[rule]);
            Due.is("two, the last end", net.end(rule, ends[rule] - 1), 3);
            Due.is("two, the i behind it", net.end(rule, ends[rule]), -6);
        }
        net.hold(1, true);
        Nets.follow("two, 1 held, REPLY", net, REPLY, 0, 0, 3, 3);
        Nets.follow("two, 1 held, COPY", net, COPY, 0, 1, 2, 3);
        Nets.follow("two, 1 held, BAR", net, BAR, 0, 0, 3, 3);
        Nets.follow("two, 1 held, IN TURN", net, IN_TURN, 0, 0, 3, 3);
    }

    /** "its own, if both are alike", be it 0 or 1. */
    private static void replyItsOwnIfAlike() {
        GameNet net = Nets.full(10, 9);
        Nets.pays(net, 5, -3, 5, -3);
        for (int bits : SOME_STATES) {
            Due.is("alike for all, REPLY", net.after(REPLY, bits), bits);
            Due.is("alike for all, IN TURN", net.after(IN_TURN, bits), bits);
        }
        // 1 stands between 0, who plays 0, and 2, who plays 1, both by lines of one weight.
        net = new GameNet();
        net.players(3);
        net.line(0, 1, 9);
        net.line(1, 2, 9);
        net.hold(0, true);
        net.hold(2, true);
        Nets.follow("in the midst, REPLY", net, REPLY, 0, 1, 0, 3, 4, 7, 6, 7);
        Nets.follow("in the midst, IN TURN", net, IN_TURN, 0, 1, 0, 3, 4, 7, 6, 7);
    }

    /** "the WAY that would have the greater WAGE": a lead of 1, up or down, is enough. */
    private static void replyForOneMore() {
        GameNet net = new GameNet();
        net.players(3);
        net.line(0, 1, 8);
        net.line(1, 2, 9);
        net.hold(0, true);
        net.hold(2, true);
        Nets.follow("one more, REPLY", net, REPLY, 0, 1, 0, 1, 6, 7, 6, 7);
        Nets.follow("one more, IN TURN", net, IN_TURN, 0, 1, 0, 1, 6, 7, 6, 7);
    }

    /** "its own, if its WAGE is as great": though another plays unlike and has a lesser number. */
    private static void copyItsOwnIfAsGreat() {
        GameNet net = Nets.full(2, 1);
        Nets.pays(net, 0, 5, 5, 0);
        Nets.follow("as great, COPY", net, COPY, 0, 1, 2, 3);
        net.pay(1, 0, 6);
        Nets.follow("1 earns one more, COPY", net, COPY, 0, 3, 3, 3);
        net.pay(1, 0, 4);
        Nets.follow("1 earns one less, COPY", net, COPY, 0, 0, 0, 3);
    }

    /** "else of several the least number": the first and the last of those beside it. */
    private static void copyOfSeveralTheLeastNumber() {
        GameNet net = Nets.star(10, 1);
        // All the leaves earn -1 beside the centre's 0; it earns -9 or less by nine of them.
        Nets.pays(net, -1, -9, -1, 0);
        Due.is("0 plays 1, 1 to 8 play 0", net.after(COPY, 1) & 512, 512);
        Due.is("0 plays 0, 1 to 8 play 1", net.after(COPY, 510) & 512, 0);
        Due.is("0 and 8 play 1", net.after(COPY, 257) & 512, 512);
        Due.is("8 alone plays 1", net.after(COPY, 256) & 512, 0);
        net.line(0, 9, 0);
        Due.is("1 is the least with a line, and plays 1", net.after(COPY, 2) & 512, 512);
        Due.is("1 is the least with a line, and plays 0", net.after(COPY, 509) & 512, 0);
    }

    /** "of itself and those it has a LINE with". */
    private static void copyOnlyAlongLines() {
        GameNet net = new GameNet();
        net.players(4);
        net.line(0, 1, 1);
        net.line(1, 2, 9);
        Nets.pays(net, 1, 0, 9, 0);
        // 2 plays 1 and earns 81; 1 has a line with it, 0 has none, 3 has none at all.
        Due.is("along lines, COPY", net.after(COPY, 4), 6);
        Due.is("one without lines keeps 1", net.after(COPY, 12), 14);
        net.line(3, 2, 1);
        Due.is("the least line is enough", net.after(COPY, 4), 14);
    }

    /** "100 times the WEIGHTS of those that play 1 is BAR times all its WEIGHTS, or more". */
    private static void barJustReachedAndJustMissed() {
        // Player 9 has nine lines of weight 9: with m ones beside it, its part is m of 9.
        for (int ones = 0; ones <= 9; ones++) {
            int reached = 100 * ones / 9;
            int bits = (1 << ones) - 1;
            for (int own = 0; own <= 512; own += 512) {
                GameNet net = Nets.star(10, 9);
                net.bar(reached);
                Due.is(ones + " of 9 at " + reached, net.after(BAR, bits + own) & 512, 512);
                net.bar(Math.min(reached + 1, 100));
                Due.is(ones + " of 9 above " + reached, net.after(BAR, bits + own) & 512,
                        ones == 9 ? 512 : 0);
            }
        }
        // Two lines of weights 1 and 3: a fourth, three fourths, just so.
        for (int bar = 0; bar <= 100; bar++) {
            GameNet net = new GameNet();
            net.players(3);
            net.line(0, 1, 1);
            net.line(1, 2, 3);
            net.bar(bar);
            Due.is("none at " + bar, net.after(BAR, 2) & 2, bar == 0 ? 2 : 0);
            Due.is("a fourth at " + bar, net.after(BAR, 1) & 2, bar <= 25 ? 2 : 0);
            Due.is("three fourths at " + bar, net.after(BAR, 4) & 2, bar <= 75 ? 2 : 0);
            Due.is("all at " + bar, net.after(BAR, 5) & 2, 2);
        }
    }

    /** BAR 0 is reached by none that play 1; BAR 100 by all of them alone. */
    private static void barNoughtAndWhole() {
        GameNet net = Nets.full(10, 9);
        net.bar(0);
        for (int bits : SOME_STATES) {
            Due.is("BAR 0 in " + bits, net.after(BAR, bits), 1023);
        }
        net.bar(1);
        Due.is("BAR 1 in 0", net.after(BAR, 0), 0);
        Due.is("BAR 1 in 1", net.after(BAR, 1), 1022);
        Due.is("BAR 1 in 3", net.after(BAR, 3), 1023);
        net.bar(100);
        Due.is("BAR 100 in 1023", net.after(BAR, 1023), 1023);
        for (int player = 0; player < 10; player++) {
            Due.is("BAR 100 but for one", net.after(BAR, 1023 - (1 << player)), 1 << player);
        }
    }

    /** "one without LINES keeps its WAY", also where others have some. */
    private static void barWithoutLines() {
        GameNet net = new GameNet();
        net.players(3);
        net.line(0, 2, 1);
        net.bar(0);
        Nets.follow("1 without lines, BAR 0", net, BAR, 5, 5, 7, 7, 5, 5, 7, 7);
        net.bar(100);
        Nets.follow("1 without lines, BAR 100", net, BAR, 0, 4, 2, 6, 1, 5, 3, 7);
    }

    /** "PLAYER by PLAYER from 0 on each REPLIES to what is then (HELD ones do not)". */
    private static void inTurnFromNoughtOn() {
        GameNet net = Nets.fallingRow();
        Due.is("0 itself replies first", net.after(IN_TURN, 1), 0);
        Due.is("0 plays 0 beside 1, who plays 1", net.after(IN_TURN, 2), 1023);
        net.hold(0, true);
        Due.is("down the row in one step", net.after(IN_TURN, 1), 1023);
        Due.is("all at once go one on", net.after(REPLY, 1), 3);
        net.hold(5, true);
        Due.is("down to one that is held", net.after(IN_TURN, 1), 31);

        net = Nets.risingRow();
        net.hold(9, true);
        Due.is("up the row one each step", net.after(IN_TURN, 512), 768);
        Due.is("the last replies too", Nets.risingRow().after(IN_TURN, 512), 768);
    }

    /** "n STEPS (1 to 100)": in a ring of seven each number of steps tells. */
    private static void promise11OneStepAndAHundred() {
        int[] ring = {1, 3, 33, 47, 45, 13, 15};
        for (int n : new int[] {1, 2, 3, 4, 5, 6, 7, 8, 50, 98, 99, 100}) {
            GameNet net = ringOfSeven();
            net.state(1);
            Due.is("11: step(1, " + n + ")", net.step(COPY, n), ring[n % 7]);
            Due.is("11: the state", net.told(3), ring[n % 7]);
        }
        GameNet net = ringOfSeven();
        net.state(1);
        Due.is("11: step(1, 0)", net.step(COPY, 0), -2);
        Due.is("11: step(1, 101)", net.step(COPY, 101), -2);
        Due.is("11: the state stays", net.told(3), 1);
        for (int rule = 0; rule <= 3; rule++) {
            net = Nets.row();
            net.state(3);
            int after = net.after(rule, 3);
            Due.is("11: one step is what comes behind, " + rule, net.step(rule, 1), after);
        }
    }

    private static void promise11AllHeld() {
        GameNet net = allWantOne();
        Nets.holdAll(net);
        for (int rule = 0; rule <= 3; rule++) {
            net.state(341);
            Due.is("11: all held, step(" + rule + ", 100)", net.step(rule, 100), 341);
        }
        net.players(10);
        for (int rule = 0; rule <= 3; rule++) {
            net.state(682);
            Due.is("11: no lines, step(" + rule + ", 100)", net.step(rule, 100), 682);
        }
    }

    private static void promise12FirstAndLastState() {
        for (int n = 2; n <= 10; n++) {
            GameNet net = Nets.full(n, 1);
            int last = (1 << n) - 1;
            for (int rule = 0; rule <= 3; rule++) {
                Due.is("12: the first", net.after(rule, 0), 0);
                Due.is("12: the last", net.after(rule, last), last);
                Due.is("12: the one behind it", net.after(rule, last + 1), -2);
                Due.is("12: the one ahead of the first", net.after(rule, -1), -2);
            }
            Due.is("12: the state stays", net.told(3), 0);
        }
    }

    private static void goes(String where, GameNet net, int rule, int... due) {
        for (int what = 0; what <= 3; what++) {
            Due.is("13: " + where + ", goes(" + rule + ", " + what + ")", net.goes(rule, what),
                    due[what]);
        }
    }

    /** "TAIL: the STEPS to the first STATE that comes again": 0, where THE STATE itself does. */
    private static void promise13TailNought() {
        GameNet net = Nets.full(10, 1);
        for (int rule = 0; rule <= 3; rule++) {
            net.state(0);
            goes("the first state", net, rule, 0, 1, 0, 0);
            net.state(1023);
            goes("the last state", net, rule, 0, 1, 1023, 1023);
        }
        Nets.pays(net, 0, 1, 1, 0);
        net.state(1023);
        goes("from the greatest of a ring of all", net, REPLY, 0, 2, 0, 1023);
        Nets.holdAll(net);
        for (int rule = 0; rule <= 3; rule++) {
            net.state(341);
            goes("all held", net, rule, 0, 1, 341, 341);
        }
        Due.is("13: the state stays", net.told(3), 341);
    }

    /** One after the other, nine go over. */
    private static void promise13LongTail() {
        GameNet net = Nets.risingRow();
        net.hold(9, true);
        net.state(512);
        for (int rule : new int[] {REPLY, BAR, IN_TURN}) {
            goes("the last held at 1", net, rule, 9, 1, 1023, 1023);
        }
        net.state(511);
        for (int rule : new int[] {REPLY, BAR, IN_TURN}) {
            goes("the last held at 0", net, rule, 9, 1, 0, 0);
        }
        net = Nets.fallingRow();
        net.hold(0, true);
        net.state(1);
        goes("the first held at 1", net, REPLY, 9, 1, 1023, 1023);
        goes("the first held at 1", net, BAR, 9, 1, 1023, 1023);
        goes("the first held at 1", net, IN_TURN, 1, 1, 1023, 1023);
    }

    /** "RING: the STEPS from that to itself". */
    private static void promise13LongRing() {
        GameNet net = ringOfSeven();
        for (int at : new int[] {1, 3, 33, 47, 45, 13, 15}) {
            net.state(at);
            goes("ring of seven from " + at, net, COPY, 0, 7, 1, at);
        }
        Due.is("13: the state stays", net.told(3), 15);
    }

    /** "3 the first STATE that comes again": not the least of its RING, nor the one asked from. */
    private static void promise13FirstThatComesAgain() {
        GameNet net = Nets.row();
        net.state(3);
        goes("from 3 into the ring of 5 and 2", net, REPLY, 1, 2, 2, 5);
        net.state(4);
        goes("from 4 into the ring of 2 and 5", net, REPLY, 1, 2, 2, 2);
    }

    private static void promise14OneEnd() {
        GameNet net = allWantOne();
        for (int rule : new int[] {REPLY, BAR, IN_TURN}) {
            Due.is("14: one end", net.end(rule, -1), 1);
            Due.is("14: the first", net.end(rule, 0), 1023);
            Due.is("14: the i behind it", net.end(rule, 1), -6);
            Due.is("14: the i ahead of -1", net.end(rule, -2), -6);
        }
        Due.is("14: COPY ends at all 0 too", net.end(COPY, -1), 2);
    }

    private static void promise14AsManyEndsAsBeginnings() {
        for (int n = 2; n <= 10; n++) {
            GameNet net = new GameNet();
            net.players(n);
            int last = (1 << n) - 1;
            for (int rule = 0; rule <= 3; rule++) {
                Due.is("14: no lines, how many", net.end(rule, -1), last + 1);
                Due.is("14: no lines, the first", net.end(rule, 0), 0);
                Due.is("14: no lines, the second", net.end(rule, 1), 1);
                Due.is("14: no lines, the last", net.end(rule, last), last);
                Due.is("14: no lines, the i behind it", net.end(rule, last + 1), -6);
            }
        }
    }

    /** "told by their least STATE, in order of these". */
    private static void promise14InOrderByTheLeast() {
        // Two pairs: each is at 0 0, at 1 1 (a rest), or goes to and fro between 0 1 and 1 0.
        GameNet net = new GameNet();
        net.line(0, 1, 1);
        net.line(2, 3, 1);
        int[] due = {0, 1, 3, 4, 5, 6, 7, 12, 13, 15};
        Due.is("14: two pairs, how many", net.end(REPLY, -1), due.length);
        for (int i = 0; i < due.length; i++) {
            Due.is("14: two pairs, end(0, " + i + ")", net.end(REPLY, i), due[i]);
        }
        Due.is("14: two pairs, the i behind it", net.end(REPLY, due.length), -6);
        Due.is("14: ring of seven", ringOfSeven().end(COPY, 1), 1);
    }

    /** "BEGINNINGS: all STATES in which HELD ones have the WAYS that they have in THE STATE." */
    private static void promise14Held() {
        GameNet net = new GameNet();
        net.players(10);
        Nets.holdAll(net);
        for (int bits : SOME_STATES) {
            net.state(bits);
            for (int rule = 0; rule <= 3; rule++) {
                Due.is("14: all held, how many", net.end(rule, -1), 1);
                Due.is("14: all held, the first", net.end(rule, 0), bits);
                Due.is("14: all held, the i behind it", net.end(rule, 1), -6);
            }
        }
        net.hold(9, false);
        net.state(1023);
        Due.is("14: all but 9 held, how many", net.end(REPLY, -1), 2);
        Due.is("14: all but 9 held, the first", net.end(REPLY, 0), 511);
        Due.is("14: all but 9 held, the last", net.end(REPLY, 1), 1023);
        Due.is("14: all but 9 held, the i behind it", net.end(REPLY, 2), -6);
    }

    private static void basin(String where, GameNet net, int rule, int i, int... due) {
        for (int what = 0; what <= 2; what++) {
            Due.is("15: " + where + ", basin(" + rule + ", " + i + ", " + what + ")",
                    net.basin(rule, i, what), due[what]);
        }
    }

    /** "NONE: there is no END i". */
    private static void promise15FirstAndLastEnd() {
        GameNet net = new GameNet();
        net.line(0, 1, 1);
        net.line(2, 3, 1);
        basin("two pairs at 0", net, REPLY, 0, 1, 1, 0);
        basin("one to and fro", net, REPLY, 1, 2, 2, 0);
        basin("both to and fro, alike", net, REPLY, 4, 2, 2, 0);
        basin("two pairs at 1", net, REPLY, 9, 1, 1, 0);
        basin("the i behind it", net, REPLY, 10, -6, -6, -6);
        basin("the i ahead of the first", net, REPLY, -1, -6, -6, -6);
        basin("the least i", net, REPLY, Integer.MIN_VALUE, -6, -6, -6);
        basin("the greatest i", net, REPLY, Integer.MAX_VALUE, -6, -6, -6);
        Due.is("15: what -1", net.basin(REPLY, 0, -1), -2);
        Due.is("15: what 3", net.basin(REPLY, 0, 3), -2);
    }

    private static void promise15AllBeginningsComeSomewhere() {
        GameNet net = allWantOne();
        basin("all come to one", net, REPLY, 0, 1024, 1, 1);
        basin("all 0, by COPY", net, COPY, 0, 1, 1, 0);
        basin("the rest, by COPY", net, COPY, 1, 1023, 1, 1);
        net.hold(0, true);
        basin("half of them, 0 held at 0", net, REPLY, 0, 512, 1, 1);
        net = Nets.risingRow();
        net.hold(9, true);
        basin("the last held", net, REPLY, 0, 512, 1, 9);
        basin("the last held", net, BAR, 0, 512, 1, 9);
        basin("ring of seven", ringOfSeven(), COPY, 1, 8, 7, 1);
    }

    /** The greatest TAIL is 0 where only the RING itself comes to it. */
    private static void promise15TailNought() {
        GameNet net = new GameNet();
        net.players(10);
        for (int rule = 0; rule <= 3; rule++) {
            basin("no lines, the first", net, rule, 0, 1, 1, 0);
            basin("no lines, the last", net, rule, 1023, 1, 1, 0);
            basin("no lines, the i behind it", net, rule, 1024, -6, -6, -6);
        }
        Nets.holdAll(net);
        net.state(341);
        for (int rule = 0; rule <= 3; rule++) {
            basin("all held", net, rule, 0, 1, 1, 0);
            basin("all held, the i behind it", net, rule, 1, -6, -6, -6);
        }
    }

    /** "How many BEGINNINGS none comes to": none of them; all but one; itself is one that comes. */
    private static void promise16NoneAndMost() {
        GameNet net = allWantOne();
        for (int rule : new int[] {REPLY, BAR, IN_TURN}) {
            Due.is("16: all but one", net.lone(rule), 1023);
        }
        Due.is("16: all but two", net.lone(COPY), 1022);
        net.hold(4, true);
        for (int rule : new int[] {REPLY, BAR, IN_TURN}) {
            Due.is("16: all but one of half of them", net.lone(rule), 511);
        }
        Nets.holdAll(net);
        for (int rule = 0; rule <= 3; rule++) {
            Due.is("16: all held, none", net.lone(rule), 0);
        }
        for (int n = 2; n <= 10; n++) {
            net.players(n);
            for (int rule = 0; rule <= 3; rule++) {
                Due.is("16: no lines, none", net.lone(rule), 0);
            }
        }
        net = Nets.full(2, 1);
        Due.is("16: a ring and two rests, none", net.lone(REPLY), 0);
    }

    /** "how many BEGINNINGS are such that it comes behind (i = -1), the i-th; NONE". */
    private static void promise17NoneAndAll() {
        GameNet net = allWantOne();
        for (int rule : new int[] {REPLY, BAR, IN_TURN}) {
            net.state(0);
            Due.is("17: none", net.before(rule, -1), 0);
            Due.is("17: none, i 0", net.before(rule, 0), -6);
            net.state(1023);
            Due.is("17: all", net.before(rule, -1), 1024);
            Due.is("17: all, the first", net.before(rule, 0), 0);
            Due.is("17: all, the second", net.before(rule, 1), 1);
            Due.is("17: all, the last", net.before(rule, 1023), 1023);
            Due.is("17: all, the i behind it", net.before(rule, 1024), -6);
            Due.is("17: all, the i ahead of -1", net.before(rule, -2), -6);
        }
        net.hold(0, true);
        Due.is("17: 0 held at 1, half of them", net.before(REPLY, -1), 512);
        Due.is("17: 0 held at 1, the first", net.before(REPLY, 0), 1);
        Due.is("17: 0 held at 1, the last", net.before(REPLY, 511), 1023);
        Due.is("17: 0 held at 1, the i behind it", net.before(REPLY, 512), -6);
        Due.is("17: the state stays", net.told(3), 1023);
    }

    private static void promise17FirstAndLast() {
        GameNet net = new GameNet();
        net.players(10);
        for (int held = 0; held <= 1; held++) {
            for (int bits : SOME_STATES) {
                net.state(bits);
                for (int rule = 0; rule <= 3; rule++) {
                    Due.is("17: itself alone, how many", net.before(rule, -1), 1);
                    Due.is("17: itself alone, the first", net.before(rule, 0), bits);
                    Due.is("17: itself alone, the i behind it", net.before(rule, 1), -6);
                }
            }
            Nets.holdAll(net);
        }
        // State 1 of the ring of seven comes behind 15, of the ring, and behind 35, ahead of it.
        net = ringOfSeven();
        net.state(1);
        Due.is("17: two, how many", net.before(COPY, -1), 2);
        Due.is("17: two, the first", net.before(COPY, 0), 15);
        Due.is("17: two, the last", net.before(COPY, 1), 35);
        Due.is("17: two, the i behind it", net.before(COPY, 2), -6);
        Due.is("17: two, the least i", net.before(COPY, Integer.MIN_VALUE), -6);
        Due.is("17: two, the greatest i", net.before(COPY, Integer.MAX_VALUE), -6);
    }
}
