/** Promises 18 to 24 at the ends of their ranges; each method holds one sentence. */
public final class RisesEdgesTest {
    private static final int REPLY = 0;
    private static final int COPY = 1;
    private static final int BAR = 2;
    private static final int IN_TURN = 3;

    public static void main(String[] args) {
        promise18GreatestAndLeast();
        promise18UnlikeWaysAreNought();
        promise18NoLines();
        promise18HeldOnesToo();
        promise18GrowsAsTheWageGrows();
        promise19TheLeastOfSeveral();
        promise19BelowNought();
        promise19AllHeld();
        promise20AsMuchIsNoGain();
        promise20OneMoreIsAGain();
        promise20OnlyHeldOnesWouldGain();
        promise21AllRest();
        promise21AllHeld();
        promise22NoneAreNeeded();
        promise22AllAreNeeded();
        promise22FewestAheadOfLeast();
        promise22OfSeveralSetsTheLeast();
        promise22ComingThroughIsEnough();
        promise22ManySteps();
        promise22WhoIsHeldHasNoPart();
        promise23FromNoughtToOne();
        promise23NoShare();
        promise23LowestTerms();
        promise24NoneAndAll();
        promise24JustSo();
        promise24WithoutLines();
        promise24OnlyItsOwnPlayers();
        Due.end();
    }

    /** 45 lines of weight 9, times 18: the most that two PAYS can differ. */
    private static void promise18GreatestAndLeast() {
        GameNet net = Nets.full(10, 9);
        Nets.pays(net, 9, 9, -9, -9);
        Due.is("18: greatest, all play 0", net.rise(), 7290);
        net.state(1023);
        Due.is("18: least, all play 1", net.rise(), -7290);
        Nets.pays(net, -9, -9, 9, 9);
        Due.is("18: greatest, all play 1", net.rise(), 7290);
        net.state(0);
        Due.is("18: least, all play 0", net.rise(), -7290);
    }

    /** "else 0". */
    private static void promise18UnlikeWaysAreNought() {
        GameNet net = Nets.full(2, 9);
        Nets.pays(net, 9, -9, -8, 7);
        int[] due = {9 * 17, 0, 0, 9 * 16};
        for (int bits = 0; bits < due.length; bits++) {
            net.state(bits);
            Due.is("18: two, in " + bits, net.rise(), due[bits]);
        }
        net = Nets.star(10, 9);
        net.state(512);
        Due.is("18: the centre unlike all others", net.rise(), 0);
        net.state(511);
        Due.is("18: all others unlike the centre", net.rise(), 0);
        net.state(513);
        Due.is("18: one line of ones", net.rise(), 9);
        net.state(510);
        Due.is("18: one line of noughts", net.rise(), 9);
    }

    private static void promise18NoLines() {
        GameNet net = new GameNet();
        net.players(10);
        Nets.pays(net, 9, -9, -9, 9);
        Due.is("18: no lines, all play 0", net.rise(), 0);
        net.state(1023);
        Due.is("18: no lines, all play 1", net.rise(), 0);
    }

    private static void promise18HeldOnesToo() {
        GameNet net = Nets.full(10, 1);
        Nets.holdAll(net);
        Due.is("18: all held", net.rise(), 45);
    }

    /** "(Whoever changes alone, its WAGE and RISE grow alike.)": by the greatest PAYS too. */
    private static void promise18GrowsAsTheWageGrows() {
        int[][] games = {{9, -9, -9, 9}, {-9, 9, 9, -9}, {9, -9, 9, -9}, {-9, -9, 9, 9}};
        for (int[] game : games) {
            GameNet net = Nets.risingRow();
            Nets.pays(net, game[0], game[1], game[2], game[3]);
            for (int bits : new int[] {0, 341, 512, 1022, 1023}) {
                for (int player = 0; player < 10; player++) {
                    net.state(bits);
                    int from = net.rise();
                    int grown = net.wage(player, 1) - net.wage(player, 0);
                    net.state(bits ^ 1 << player);
                    Due.is("18: " + player + " changes in " + bits, net.rise() - from, grown);
                }
            }
        }
    }

    /** "(the least of several)". */
    private static void promise19TheLeastOfSeveral() {
        GameNet net = new GameNet();
        net.players(10);
        net.state(1023);
        Due.is("19: no lines", net.highest(), 0);
        net.hold(9, true);
        Due.is("19: no lines, 9 held at 1", net.highest(), 512);
        net = Nets.full(10, 1);
        net.state(1023);
        Due.is("19: all 0 and all 1 are alike", net.highest(), 0);
        net.pay(1, 1, 2);
        net.state(0);
        Due.is("19: all 1 is one more", net.highest(), 1023);
        Nets.pays(net, 0, 1, 1, 0);
        Due.is("19: five of ten, the least", net.highest(), 31);
        Due.is("19: the state stays", net.told(3), 0);
    }

    /** All RISES that there are lie below 0. */
    private static void promise19BelowNought() {
        GameNet net = Nets.full(3, 9);
        Nets.pays(net, -9, 9, 8, -9);
        net.hold(0, true);
        net.hold(1, true);
        // 0 and 1 play 0: a line of noughts is 9 times -17; with 2 at 0 there are three of them.
        Due.is("19: below 0, from 0", net.highest(), 4);
        net.state(3);
        // A line of ones is 9 times -18.
        Due.is("19: below 0, from 3", net.highest(), 3);
        net.state(7);
        Due.is("19: below 0, from 7", net.highest(), 3);
        Due.is("19: rise of 7", net.rise(), -3 * 9 * 18);
    }

    private static void promise19AllHeld() {
        GameNet net = Nets.full(10, 9);
        Nets.holdAll(net);
        for (int bits : new int[] {0, 1, 341, 1022, 1023}) {
            net.state(bits);
            Due.is("19: all held", net.highest(), bits);
        }
    }

    /** "would gain by its other WAY alone". */
    private static void promise20AsMuchIsNoGain() {
        GameNet net = Nets.full(10, 9);
        Nets.pays(net, 4, -4, 4, -4);
        for (int bits : new int[] {0, 1, 341, 1023}) {
            net.state(bits);
            Due.is("20: as much either way in " + bits, net.rests(), 1);
        }
        Due.is("21: as much either way", net.restMany(), 1024);
        net.players(10);
        Nets.pays(net, 9, -9, -9, 9);
        Due.is("20: no lines", net.rests(), 1);
    }

    private static void promise20OneMoreIsAGain() {
        GameNet net = Nets.full(2, 1);
        Nets.pays(net, 4, 0, 5, 0);
        Due.is("20: one more at 1", net.rests(), 0);
        net.pay(1, 0, 4);
        Due.is("20: as much at 1", net.rests(), 1);
        net.pay(1, 0, 3);
        Due.is("20: one less at 1", net.rests(), 1);
        Nets.pays(net, 0, 5, 0, 4);
        net.state(3);
        Due.is("20: one more at 0", net.rests(), 0);
        net.pay(1, 1, 5);
        Due.is("20: as much at 0", net.rests(), 1);
        net.pay(1, 1, 6);
        Due.is("20: one less at 0", net.rests(), 1);
    }

    /** "no PLAYER that is not HELD": the first, the last, and all of them. */
    private static void promise20OnlyHeldOnesWouldGain() {
        GameNet net = Nets.full(10, 1);
        for (int player = 0; player < 10; player++) {
            net.state(1 << player);
            Due.is("20: " + player + " would gain", net.rests(), 0);
            net.hold(player, true);
            Due.is("20: " + player + " would gain, but is held", net.rests(), 1);
            net.hold(player, false);
        }
        net.state(31);
        Due.is("20: all would gain", net.rests(), 0);
        Nets.holdAll(net);
        Due.is("20: all would gain, but are held", net.rests(), 1);
        net.hold(9, false);
        Due.is("20: the last is held no more", net.rests(), 0);
    }

    private static void promise21AllRest() {
        for (int n = 2; n <= 10; n++) {
            GameNet net = new GameNet();
            net.players(n);
            Due.is("21: no lines", net.restMany(), 1 << n);
            net.hold(n - 1, true);
            Due.is("21: no lines, the last held", net.restMany(), 1 << n - 1);
            net = Nets.full(n, 9);
            Due.is("21: all lines, all 0 and all 1", net.restMany(), 2);
            Nets.pays(net, 0, 0, 1, 1);
            Due.is("21: all lines, all 1 alone", net.restMany(), 1);
        }
    }

    private static void promise21AllHeld() {
        GameNet net = Nets.full(10, 9);
        Nets.holdAll(net);
        for (int bits : new int[] {0, 1, 31, 1023}) {
            net.state(bits);
            Due.is("21: all held", net.restMany(), 1);
        }
    }

    /** "(0: none are needed)". */
    private static void promise22NoneAreNeeded() {
        for (int n = 2; n <= 10; n++) {
            GameNet net = Nets.full(n, 9);
            Nets.pays(net, 0, 0, 1, 1);
            net.bar(0);
            for (int rule : new int[] {REPLY, BAR, IN_TURN}) {
                Due.is("22: none are needed", net.tip(rule), 0);
            }
            Due.is("22: one to be copied is needed", net.tip(COPY), 1);
        }
    }

    private static void promise22AllAreNeeded() {
        for (int n = 2; n <= 10; n++) {
            GameNet net = new GameNet();
            net.players(n);
            for (int rule = 0; rule <= 3; rule++) {
                Due.is("22: no lines", net.tip(rule), (1 << n) - 1);
            }
            net = Nets.full(n, 9);
            Nets.pays(net, 1, 1, 0, 0);
            Due.is("22: all lines, 0 is paid best", net.tip(REPLY), (1 << n) - 1);
            Due.is("22: all lines, 0 is paid best", net.tip(IN_TURN), (1 << n) - 1);
        }
    }

    /** "the fewest PLAYERS": one of great number comes ahead of two small ones. */
    private static void promise22FewestAheadOfLeast() {
        GameNet net = Nets.star(10, 1);
        net.bar(100);
        Due.is("22: the centre, not nine others", net.tip(BAR), 512);
        Due.is("22: the centre, by REPLY", net.tip(REPLY), 512);
        net.bar(11);
        Due.is("22: a leaf, BAR 11 of one in nine", net.tip(BAR), 1);
        net.bar(12);
        Due.is("22: the centre, BAR 12", net.tip(BAR), 512);
    }

    /** "of several sets the one that is the least as bits". */
    private static void promise22OfSeveralSetsTheLeast() {
        // A ring of five at BAR 100: each of its lines needs one end at least to be held.
        GameNet net = new GameNet();
        net.players(5);
        for (int player = 0; player < 5; player++) {
            net.line(player, (player + 1) % 5, 1);
        }
        net.bar(100);
        Due.is("22: 0, 1 and 3: 11, ahead of 13 and 14", net.tip(BAR), 11);

        // Two pairs, 0 with 3 and 1 with 2: one of each; 0 and 1 are the least.
        net.players(4);
        net.line(0, 3, 1);
        net.line(1, 2, 1);
        for (int rule : new int[] {REPLY, BAR, IN_TURN}) {
            Due.is("22: two pairs", net.tip(rule), 3);
        }
    }

    /** "STEPS by a RULE then lead to the STATE in which all play 1". */
    private static void promise22ComingThroughIsEnough() {
        GameNet net = Nets.full(10, 1);
        Nets.pays(net, 0, 1, 1, 0);
        Due.is("22: to and fro", net.tip(REPLY), 0);
        Due.is("22: in turn they never come through", net.tip(IN_TURN), 1023);
    }

    /** Up the rising row from 8, whom 9 follows too; down the falling one from 0. */
    private static void promise22ManySteps() {
        GameNet net = Nets.risingRow();
        for (int rule : new int[] {REPLY, BAR, IN_TURN}) {
            Due.is("22: 8 of the rising row, ahead of 9", net.tip(rule), 256);
        }
        net = Nets.fallingRow();
        for (int rule : new int[] {REPLY, BAR, IN_TURN}) {
            Due.is("22: the first of the falling row", net.tip(rule), 1);
        }
    }

    /** "none of them being HELD", "(THE STATE, who is HELD stay.)". */
    private static void promise22WhoIsHeldHasNoPart() {
        GameNet net = Nets.full(10, 1);
        Nets.holdAll(net);
        net.state(341);
        Due.is("22: all held", net.tip(IN_TURN), 31);
        Due.is("22: all held, REPLY", net.tip(REPLY), 31);
        Due.is("22: all are held still", net.told(2), 1023);
        Due.is("22: the state stays", net.told(3), 341);
        Due.is("22: nothing moves", net.step(REPLY, 1), 341);
    }

    private static void share(String where, int upper, int lower, int... pays) {
        GameNet net = new GameNet();
        Nets.pays(net, pays[0], pays[1], pays[2], pays[3]);
        Due.is("23: " + where + ", share(0)", net.share(0), upper);
        Due.is("23: " + where + ", share(1)", net.share(1), lower);
        Due.is("23: " + where + ", share(-1)", net.share(-1), -2);
        Due.is("23: " + where + ", share(2)", net.share(2), -2);
    }

    /** "if that sum is above 0 and the share from 0 to 1". */
    private static void promise23FromNoughtToOne() {
        share("0 of 1", 0, 1, 0, 0, 0, 1);
        share("0 of 18", 0, 1, 5, -9, 5, 9);
        share("1 of 1", 1, 1, 1, 0, 0, 0);
        share("18 of 18", 1, 1, 9, 4, -9, 4);
        share("18 of 36", 1, 2, 9, -9, -9, 9);
        share("1 of 19", 1, 19, 1, -9, 0, 9);
        share("18 of 19", 18, 19, 9, 0, -9, 1);
    }

    /** "STATE: there is none": the sum 0 or below, the share just below 0 and just above 1. */
    private static void promise23NoShare() {
        share("0 of 0", -3, -3, 0, 0, 0, 0);
        share("1 of 0", -3, -3, 1, 1, 0, 0);
        share("-1 of 0", -3, -3, 0, 0, 1, 1);
        share("-1 of 1", -3, -3, 0, 0, 1, 2);
        share("-2 of 3", -3, -3, 0, 0, 2, 5);
        share("-9 of 4", -3, -3, -9, -9, 0, 4);
        share("2 of 1", -3, -3, 2, 1, 0, 0);
        share("-1 of 17", -3, -3, 0, -9, 1, 9);
        share("5 of 3", -3, -3, 5, 2, 0, 0);
        share("18 of 17", -3, -3, 9, 1, -9, 0);
        share("0 of -1", -3, -3, 0, 1, 0, 0);
        share("-1 of -1", -3, -3, 0, 0, 1, 0);
        share("-1 of -2", -3, -3, 0, 1, 1, 0);
        share("-18 of -36", -3, -3, -9, 9, 9, -9);
        share("18 of 0", -3, -3, 9, 9, -9, -9);
    }

    /** "in lowest terms". */
    private static void promise23LowestTerms() {
        share("2 of 4", 1, 2, 2, 0, 0, 2);
        share("12 of 18", 2, 3, 9, 0, -3, 6);
        share("6 of 24", 1, 4, 6, -9, 0, 9);
        share("9 of 27", 1, 3, 9, -9, 0, 9);
        share("16 of 34", 8, 17, 8, -9, -8, 9);
        share("17 of 35", 17, 35, 8, -9, -9, 9);
        share("18 of 35", 18, 35, 9, -8, -9, 9);
        share("15 of 25", 3, 5, 9, -1, -6, 9);
    }

    /** The set of none, the set of all. */
    private static void promise24NoneAndAll() {
        for (int n = 2; n <= 10; n++) {
            GameNet net = Nets.full(n, 9);
            int all = (1 << n) - 1;
            for (int hundredths : new int[] {1, 50, 100}) {
                Due.is("24: none of them", net.hangs(0, hundredths), 1);
                Due.is("24: all of them", net.hangs(all, hundredths), 1);
                Due.is("24: one alone", net.hangs(1 << n - 1, hundredths), 0);
            }
            Due.is("24: the set behind the last", net.hangs(all + 1, 1), -2);
            Due.is("24: the set ahead of the first", net.hangs(-1, 1), -2);
            Due.is("24: hundredths 0", net.hangs(all, 0), -2);
            Due.is("24: hundredths 101", net.hangs(all, 101), -2);
        }
    }

    /** "100 times WEIGHTS into the set is that times all its WEIGHTS, or more". */
    private static void promise24JustSo() {
        // Of m in the set each has m - 1 of its nine lines into it.
        GameNet net = Nets.full(10, 9);
        for (int m = 2; m <= 9; m++) {
            int most = 100 * (m - 1) / 9;
            Due.is("24: " + m + " of ten at " + most, net.hangs((1 << m) - 1, most), 1);
            Due.is("24: " + m + " of ten above", net.hangs((1 << m) - 1, most + 1), 0);
        }
        // Player 1 has a fourth of its weights with 0, three fourths with 2; they have it alone.
        net = new GameNet();
        net.players(3);
        net.line(0, 1, 1);
        net.line(1, 2, 3);
        Due.is("24: a fourth at 25", net.hangs(3, 25), 1);
        Due.is("24: a fourth at 26", net.hangs(3, 26), 0);
        Due.is("24: three fourths at 75", net.hangs(6, 75), 1);
        Due.is("24: three fourths at 76", net.hangs(6, 76), 0);
        Due.is("24: nothing at 1", net.hangs(5, 1), 0);
        Due.is("24: all at 100", net.hangs(7, 100), 1);
        // One line of weight 1 beside eight of 9 is 1 of 73: more than one hundredth.
        net = Nets.star(10, 9);
        net.line(0, 9, 1);
        Due.is("24: 1 of 73 at 1", net.hangs(513, 1), 1);
        Due.is("24: 1 of 73 at 2", net.hangs(513, 2), 0);
    }

    /** "of each of its PLAYERS with LINES". */
    private static void promise24WithoutLines() {
        GameNet net = new GameNet();
        net.players(10);
        for (int bits : new int[] {0, 1, 512, 1023}) {
            Due.is("24: no lines", net.hangs(bits, 100), 1);
        }
        net.line(0, 1, 1);
        Due.is("24: those without lines", net.hangs(1020, 100), 1);
        Due.is("24: and the pair", net.hangs(1023, 100), 1);
        Due.is("24: and one of the pair", net.hangs(1021, 1), 0);
    }

    /** Those outside of the set may have all their LINES into it; who is HELD has no part. */
    private static void promise24OnlyItsOwnPlayers() {
        GameNet net = new GameNet();
        net.line(0, 1, 9);
        net.line(1, 2, 1);
        net.line(2, 3, 9);
        Due.is("24: the pair 0 and 1", net.hangs(3, 90), 1);
        Due.is("24: the pair 0 and 1", net.hangs(3, 91), 0);
        Due.is("24: the pair 2 and 3", net.hangs(12, 90), 1);
        Nets.holdAll(net);
        net.state(12);
        Due.is("24: all held", net.hangs(3, 90), 1);
        Due.is("24: all held", net.hangs(3, 91), 0);
    }
}
