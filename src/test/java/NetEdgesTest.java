/** Promises 1 to 10 and 25 at the ends of their ranges; each method holds one sentence. */
public final class NetEdgesTest {
    private static final int BAR = 2;

    public static void main(String[] args) {
        promise1AllThatANewObjectTells();
        promise1WhatANewObjectComesTo();
        promise2FromEachNumberToEach();
        promise2TheSameNumberIsAnewToo();
        promise2LinesDoNotComeBack();
        promise2PaysAndBarStay();
        promise3FromEachWeightToEach();
        promise3WeightNoughtIsNoLine();
        promise3NotWithItself();
        promise3TheLastPlayerAndTheNext();
        promise4EachOfAllLines();
        promise4NoLines();
        promise5FromEachPayToEach();
        promise6FromEachBarToEach();
        promise7NoneHeldAndAll();
        promise7HeldTwiceAndFreedTwice();
        promise8EachState();
        promise8HeldOnesAreSetToo();
        promise9GreatestAndLeast();
        promise9OtherWay();
        promise9NoLines();
        promise10GreatestAndLeast();
        promise25LeastAndGreatest();
        promise25EachPayByItself();
        Due.end();
    }

    /** "4 PLAYERS, no LINES, none HELD, THE STATE 0"; "50 at first"; "1 for alike WAYS, else 0". */
    private static void promise1AllThatANewObjectTells() {
        int[] due = {4, 0, 0, 0, 50};
        for (int what = 0; what < due.length; what++) {
            Due.is("1: told(" + what + ")", new GameNet().told(what), due[what]);
        }
        int[] pays = {1, 0, 0, 1};
        for (int ways = 0; ways < pays.length; ways++) {
            Due.is("1: told(" + (10 + ways) + ")", new GameNet().told(10 + ways), pays[ways]);
        }
        GameNet net = new GameNet();
        Due.is("1: players(4)", net.players(4), 4);
        net = new GameNet();
        Due.is("1: player 3 is the last", net.hold(3, true), 0);
        Due.is("1: there is no player 4", net.hold(4, true), -1);
        net = new GameNet();
        Due.is("1: 15 is the last state", net.state(15), 0);
        Due.is("1: bar(50)", net.bar(50), 50);
    }

    private static void promise1WhatANewObjectComesTo() {
        GameNet net = new GameNet();
        for (int player = 0; player < 4; player++) {
            Due.is("1: wage(" + player + ", 0)", net.wage(player, 0), 0);
            Due.is("1: wage(" + player + ", 1)", net.wage(player, 1), 0);
        }
        Due.is("1: sum()", net.sum(), 0);
        Due.is("1: rise()", net.rise(), 0);
        Due.is("1: highest()", net.highest(), 0);
        Due.is("1: rests()", net.rests(), 1);
        Due.is("1: restMany()", net.restMany(), 16);
        Due.is("1: share(0)", net.share(0), 1);
        Due.is("1: share(1)", net.share(1), 2);
        for (int rule = 0; rule <= 3; rule++) {
            Due.is("1: end(" + rule + ", -1)", net.end(rule, -1), 16);
            Due.is("1: lone(" + rule + ")", net.lone(rule), 0);
            Due.is("1: tip(" + rule + ")", net.tip(rule), 15);
        }
    }

    /** "n 2 to 10": "PLAYERS anew (no LINES, none HELD, THE STATE 0 ..): how many there were". */
    private static void promise2FromEachNumberToEach() {
        for (int from = 2; from <= 10; from++) {
            for (int to = 2; to <= 10; to++) {
                String call = "2: players(" + to + ") behind players(" + from + ")";
                GameNet net = Nets.full(from, 9);
                Nets.holdAll(net);
                net.state((1 << from) - 1);
                Due.is(call, net.players(to), from);
                Due.is(call + ": players", net.told(0), to);
                isAnew(call, net);
                Due.is(call + ": the last one", net.hold(to - 1, true), 0);
                Due.is(call + ": the one behind it", net.hold(to, true), -1);
                Due.is(call + ": the last state", net.state((1 << to) - 1), 0);
                Due.is(call + ": the one behind it", net.state(1 << to), -2);
            }
        }
    }

    private static void promise2TheSameNumberIsAnewToo() {
        GameNet net = Nets.full(4, 1);
        net.hold(0, true);
        net.state(9);
        Due.is("2: players(4) behind players(4)", net.players(4), 4);
        isAnew("2: players(4) behind players(4)", net);
    }

    private static void isAnew(String call, GameNet net) {
        Due.is(call + ": lines", net.told(1), 0);
        Due.is(call + ": held", net.told(2), 0);
        Due.is(call + ": the state", net.told(3), 0);
        int players = net.told(0);
        for (int a = 0; a < players; a++) {
            for (int b = 0; b < players; b++) {
                Due.is(call + ": weight(" + a + ", " + b + ")", net.weight(a, b), a == b ? -1 : 0);
            }
        }
    }

    /** Lines, held ones and ways of players that went must not be there when as many come again. */
    private static void promise2LinesDoNotComeBack() {
        GameNet net = Nets.full(10, 9);
        Nets.holdAll(net);
        net.state(1023);
        net.players(2);
        net.players(10);
        isAnew("2: ten, two, ten", net);
        net.state(1023);
        Due.is("2: ten, two, ten: sum()", net.sum(), 0);
        Due.is("2: ten, two, ten: rise()", net.rise(), 0);
        net.bar(100);
        Due.is("2: ten, two, ten: without lines all keep their ways", net.after(BAR, 341), 341);
        net.line(8, 9, 1);
        Due.is("2: ten, two, ten: one line", net.sum(), 2);
    }

    /** "PAYS, BAR stay": at both ends of their ranges. */
    private static void promise2PaysAndBarStay() {
        for (int n = 2; n <= 10; n++) {
            GameNet net = new GameNet();
            Nets.pays(net, -9, 9, 9, -9);
            net.bar(0);
            net.players(n);
            int[] due = {-9, 9, 9, -9};
            for (int ways = 0; ways < due.length; ways++) {
                Due.is("2: a pay stays", net.told(10 + ways), due[ways]);
            }
            Due.is("2: bar 0 stays", net.told(4), 0);
            net.bar(100);
            net.players(n);
            Due.is("2: bar 100 stays", net.told(4), 100);
        }
    }

    /** "WEIGHT (0 to 9 ..)", "WEIGHT of a LINE: which it was", whichever PLAYER is told first. */
    private static void promise3FromEachWeightToEach() {
        GameNet net = new GameNet();
        net.players(2);
        for (int from = 0; from <= 9; from++) {
            for (int to = 0; to <= 9; to++) {
                net.line(1, 0, from);
                Due.is("3: line(0, 1, " + to + ")", net.line(0, 1, to), from);
                Due.is("3: weight(1, 0)", net.weight(1, 0), to);
                Due.is("3: weight(0, 1)", net.weight(0, 1), to);
            }
        }
    }

    /** "0 at first: none". */
    private static void promise3WeightNoughtIsNoLine() {
        GameNet net = new GameNet();
        net.players(2);
        Due.is("3: line(0, 1, 0) at first", net.line(0, 1, 0), 0);
        Due.is("3: no line", net.told(1), 0);
        net.line(0, 1, 1);
        Due.is("3: the least line", net.told(1), 1);
        net.line(0, 1, 9);
        Due.is("3: it is still one", net.told(1), 1);
        net.bar(0);
        Due.is("3: with a line the bar moves both", net.after(BAR, 0), 3);
        Due.is("3: line(1, 0, 0)", net.line(1, 0, 0), 9);
        Due.is("3: it is gone", net.told(1), 0);
        Due.is("3: without lines the bar moves none", net.after(BAR, 0), 0);
    }

    /** "LINES between two unlike ones", "UNKNOWN: also they are one". */
    private static void promise3NotWithItself() {
        for (int n = 2; n <= 10; n++) {
            GameNet net = new GameNet();
            net.players(n);
            for (int player = 0; player < n; player++) {
                Due.is("3: line to itself", net.line(player, player, 1), -1);
                Due.is("4: weight to itself", net.weight(player, player), -1);
            }
            Due.is("3: no lines", net.told(1), 0);
        }
    }

    /** "PLAYERS 0 to n - 1". */
    private static void promise3TheLastPlayerAndTheNext() {
        for (int n = 2; n <= 10; n++) {
            GameNet net = new GameNet();
            net.players(n);
            Due.is("3: line(0, n, 1)", net.line(0, n, 1), -1);
            Due.is("3: line(n, 0, 1)", net.line(n, 0, 1), -1);
            Due.is("3: line(-1, 0, 1)", net.line(-1, 0, 1), -1);
            Due.is("3: line(0, -1, 1)", net.line(0, -1, 1), -1);
            Due.is("3: no lines", net.told(1), 0);
            Due.is("3: line(0, n - 1, 9)", net.line(0, n - 1, 9), 0);
            Due.is("4: weight(n - 1, 0)", net.weight(n - 1, 0), 9);
            Due.is("4: weight(n, 0)", net.weight(n, 0), -1);
            Due.is("4: weight(0, n)", net.weight(0, n), -1);
            Due.is("4: weight(-1, n - 1)", net.weight(-1, n - 1), -1);
            Due.is("4: weight(n - 1, -1)", net.weight(n - 1, -1), -1);
            Due.is("9: wage(n - 1, 0)", net.wage(n - 1, 0), 9);
            Due.is("9: wage(n, 0)", net.wage(n, 0), -100001);
            Due.is("9: wage(-1, 0)", net.wage(-1, 0), -100001);
        }
    }

    /** All the LINES that there can be: each has a WEIGHT of its own. */
    private static void promise4EachOfAllLines() {
        GameNet net = new GameNet();
        net.players(10);
        for (int a = 0; a < 10; a++) {
            for (int b = 0; b < a; b++) {
                Due.is("3: a new line", net.line(a, b, ownWeight(a, b)), 0);
            }
        }
        Due.is("25: told(1), all lines", net.told(1), 45);
        for (int a = 0; a < 10; a++) {
            for (int b = 0; b < a; b++) {
                Due.is("4: weight(" + a + ", " + b + ")", net.weight(a, b), ownWeight(a, b));
                Due.is("4: weight(" + b + ", " + a + ")", net.weight(b, a), ownWeight(a, b));
            }
        }
    }

    private static int ownWeight(int a, int b) {
        return (a * (a - 1) / 2 + b) % 9 + 1;
    }

    private static void promise4NoLines() {
        for (int n = 2; n <= 10; n++) {
            GameNet net = new GameNet();
            net.players(n);
            isAnew("4: no lines among " + n, net);
        }
    }

    /** "PAYS of the game (-9 to 9)", "PAY(x, y): which it was". */
    private static void promise5FromEachPayToEach() {
        for (int ways = 0; ways < 4; ways++) {
            int x = ways / 2;
            int y = ways % 2;
            GameNet net = new GameNet();
            Nets.pays(net, 5, 5, 5, 5);
            int was = 5;
            for (int v = -9; v <= 9; v++) {
                Due.is("5: pay(" + x + ", " + y + ", " + v + ")", net.pay(x, y, v), was);
                was = v;
            }
            Due.is("5: from 9 to -9", net.pay(x, y, -9), 9);
            Due.is("5: from -9 to 9", net.pay(x, y, 9), -9);
            Due.is("5: 10 is not taken", net.pay(x, y, 10), -100002);
            Due.is("5: -10 is not taken", net.pay(x, y, -10), -100002);
            for (int other = 0; other < 4; other++) {
                Due.is("5: the others stay", net.told(10 + other), other == ways ? 9 : 5);
            }
        }
    }

    /** "BAR (0 to 100; 50 at first)". */
    private static void promise6FromEachBarToEach() {
        GameNet net = new GameNet();
        int was = 50;
        for (int v = 0; v <= 100; v++) {
            Due.is("6: bar(" + v + ")", net.bar(v), was);
            Due.is("6: told(4)", net.told(4), v);
            was = v;
        }
        Due.is("6: bar(101)", net.bar(101), -2);
        Due.is("6: bar(-1)", net.bar(-1), -2);
        Due.is("6: bar(0)", net.bar(0), 100);
        Due.is("6: bar(100)", net.bar(100), 0);
    }

    private static void promise7NoneHeldAndAll() {
        for (int n = 2; n <= 10; n++) {
            GameNet net = new GameNet();
            net.players(n);
            Due.is("7: none held", net.told(2), 0);
            for (int player = 0; player < n; player++) {
                Due.is("7: hold(" + player + ", true)", net.hold(player, true), 0);
                Due.is("7: held", net.told(2), (1 << player + 1) - 1);
            }
            Due.is("7: hold(n, true)", net.hold(n, true), -1);
            Due.is("7: hold(-1, false)", net.hold(-1, false), -1);
            Due.is("7: all held", net.told(2), (1 << n) - 1);
            for (int player = n - 1; player >= 0; player--) {
                Due.is("7: hold(" + player + ", false)", net.hold(player, false), 1);
                Due.is("7: held", net.told(2), (1 << player) - 1);
            }
        }
    }

    /** "whether it was (1, 0)". */
    private static void promise7HeldTwiceAndFreedTwice() {
        GameNet net = new GameNet();
        net.state(15);
        for (int player = 0; player < 4; player++) {
            Due.is("7: free, freed", net.hold(player, false), 0);
            Due.is("7: free, held", net.hold(player, true), 0);
            Due.is("7: held, held", net.hold(player, true), 1);
            Due.is("7: held still", net.told(2), 1 << player);
            Due.is("7: held, freed", net.hold(player, false), 1);
            Due.is("7: free still", net.told(2), 0);
        }
        Due.is("7: the state stays", net.told(3), 15);
    }

    /** "A STATE: the WAY of each, 0 or 1, as bits": 0 to 2 to the power of n, less 1. */
    private static void promise8EachState() {
        for (int n = 2; n <= 10; n++) {
            GameNet net = new GameNet();
            net.players(n);
            int was = 0;
            int stride = n < 8 ? 1 : 7;
            for (int bits = 0; bits < 1 << n; bits += stride) {
                Due.is("8: state(" + bits + ")", net.state(bits), was);
                was = bits;
            }
            Due.is("8: the last", net.state((1 << n) - 1), was);
            Due.is("8: the one behind it", net.state(1 << n), -2);
            Due.is("8: the one ahead of the first", net.state(-1), -2);
            Due.is("8: the first", net.state(0), (1 << n) - 1);
        }
    }

    private static void promise8HeldOnesAreSetToo() {
        GameNet net = new GameNet();
        Nets.holdAll(net);
        Due.is("8: all held, state(15)", net.state(15), 0);
        Due.is("8: all held, state(6)", net.state(6), 15);
        Due.is("8: all held, told(3)", net.told(3), 6);
        Due.is("8: all are held still", net.told(2), 15);
    }

    /** "the sum of WEIGHT times PAY(its WAY, theirs) over all others": nine times 9 times 9. */
    private static void promise9GreatestAndLeast() {
        GameNet net = Nets.full(10, 9);
        Nets.pays(net, 9, -9, -9, 9);
        for (int player = 0; player < 10; player++) {
            net.state(0);
            Due.is("9: greatest, all play 0", net.wage(player, 0), 729);
            Due.is("9: least, it plays 1", net.wage(player, 1), -729);
            net.state(1023);
            Due.is("9: greatest, all play 1", net.wage(player, 0), 729);
            Due.is("9: least, it plays 0", net.wage(player, 1), -729);
            net.state(1 << player);
            Due.is("9: least, it alone plays 1", net.wage(player, 0), -729);
            Due.is("9: greatest, it no more", net.wage(player, 1), 729);
        }
    }

    /** "as it would be with its other WAY (1)": of HELD ones too, and nothing changes by it. */
    private static void promise9OtherWay() {
        GameNet net = new GameNet();
        net.players(2);
        net.line(0, 1, 1);
        Nets.pays(net, 4, 5, 7, 8);
        int[][] due = {{4, 4, 7, 7}, {7, 5, 4, 8}, {5, 7, 8, 4}, {8, 8, 5, 5}};
        for (int held = 0; held <= 1; held++) {
            for (int bits = 0; bits < 4; bits++) {
                net.state(bits);
                Due.is("9: wage(0, 0) in " + bits, net.wage(0, 0), due[bits][0]);
                Due.is("9: wage(1, 0) in " + bits, net.wage(1, 0), due[bits][1]);
                Due.is("9: wage(0, 1) in " + bits, net.wage(0, 1), due[bits][2]);
                Due.is("9: wage(1, 1) in " + bits, net.wage(1, 1), due[bits][3]);
                Due.is("9: the state stays", net.told(3), bits);
            }
            Nets.holdAll(net);
        }
    }

    private static void promise9NoLines() {
        GameNet net = new GameNet();
        net.players(10);
        Nets.pays(net, 9, 9, 9, 9);
        net.line(0, 1, 1);
        Due.is("9: one line", net.wage(0, 0), 9);
        Due.is("9: one line", net.wage(1, 1), 9);
        for (int player = 2; player < 10; player++) {
            Due.is("9: without lines", net.wage(player, 0), 0);
            Due.is("9: without lines", net.wage(player, 1), 0);
        }
    }

    private static void promise10GreatestAndLeast() {
        GameNet net = Nets.full(10, 9);
        Nets.pays(net, 9, -9, -9, -9);
        Due.is("10: greatest", net.sum(), 7290);
        net.state(1023);
        Due.is("10: least", net.sum(), -7290);
        Nets.holdAll(net);
        Due.is("10: all held", net.sum(), -7290);
        net.players(10);
        net.state(1023);
        Due.is("10: no lines", net.sum(), 0);
        net.players(2);
        net.line(0, 1, 9);
        Due.is("10: two players", net.sum(), 2 * 81);
        net.state(1);
        Due.is("10: two players, unlike", net.sum(), -2 * 81);
    }

    private static void promise25LeastAndGreatest() {
        GameNet net = new GameNet();
        net.players(2);
        Due.is("25: fewest players", net.told(0), 2);
        Due.is("25: no lines", net.told(1), 0);
        net.line(1, 0, 1);
        Due.is("25: the line of two", net.told(1), 1);
        net = Nets.full(10, 1);
        Due.is("25: most players", net.told(0), 10);
        Due.is("25: most lines", net.told(1), 45);
        Due.is("25: none held", net.told(2), 0);
        Due.is("25: the least state", net.told(3), 0);
        Nets.holdAll(net);
        Due.is("25: all held", net.told(2), 1023);
        net.state(1023);
        Due.is("25: the greatest state", net.told(3), 1023);
        net.bar(0);
        Due.is("25: the least bar", net.told(4), 0);
        net.bar(100);
        Due.is("25: the greatest bar", net.told(4), 100);
        Due.is("25: told(-1)", net.told(-1), -100002);
        for (int what = 5; what <= 9; what++) {
            Due.is("25: told(" + what + ")", net.told(what), -100002);
        }
        Due.is("25: told(14)", net.told(14), -100002);
    }

    /** "10 and 2 x and y: PAY(x, y)": a pay below 0 is told as it is. */
    private static void promise25EachPayByItself() {
        GameNet net = new GameNet();
        Nets.pays(net, -9, -2, 8, 9);
        Due.is("25: told(10)", net.told(10), -9);
        Due.is("25: told(11)", net.told(11), -2);
        Due.is("25: told(12)", net.told(12), 8);
        Due.is("25: told(13)", net.told(13), 9);
    }
}
