/**
 * "Calls that are refused answer, the first of these that fits: UNKNOWN .., OUTSIDE .., STATE ..":
 * each call with good and bad numbers in all their places at once.
 */
public final class RefusalOrderTest {
    private static final int LEAST = Integer.MIN_VALUE;
    private static final int GREATEST = Integer.MAX_VALUE;
    private static final int[] PLAYERS = {LEAST, -1, 0, 2, 3, GREATEST};
    private static final int[] WEIGHTS = {LEAST, -1, 0, 9, 10, GREATEST};
    private static final int[] WAYS = {LEAST, -1, 0, 1, 2, GREATEST};
    private static final int[] PAYS = {LEAST, -10, -9, 9, 10, GREATEST};
    private static final int[] RULES = {LEAST, -1, 0, 1, 2, 3, 4, GREATEST};
    private static final int[] STATES = {LEAST, -1, 0, 7, 8, GREATEST};
    private static final int[] COUNTS = {LEAST, -1, 0, 1, 100, 101, GREATEST};
    private static final int[] WHATS = {LEAST, -1, 0, 2, 3, 4, GREATEST};
    private static final int[] PLACES = {LEAST, -2, -1, 0, 8, GREATEST};

    private static final Place ROW = Place.row3();

    public static void main(String[] args) {
        lineAndWeight();
        pay();
        wage();
        stepAfterGoes();
        endAndBefore();
        basin();
        hangs();
        share();
        Due.end();
    }

    private static boolean in(int x, int least, int greatest) {
        return x >= least && x <= greatest;
    }

    private static boolean areTwo(int a, int b) {
        return in(a, 0, 2) && in(b, 0, 2) && a != b;
    }

    private static void lineAndWeight() {
        for (int a : PLAYERS) {
            for (int b : PLAYERS) {
                for (int w : WEIGHTS) {
                    String call = "line(" + a + ", " + b + ", " + w + ")";
                    if (!areTwo(a, b)) {
                        ROW.refuses(call + ": UNKNOWN first", net -> net.line(a, b, w), -1);
                    } else if (!in(w, 0, 9)) {
                        ROW.refuses(call, net -> net.line(a, b, w), -2);
                    } else {
                        ROW.takes(call, net -> net.line(a, b, w));
                    }
                }
                if (!areTwo(a, b)) {
                    ROW.refuses("weight(" + a + ", " + b + ")", net -> net.weight(a, b), -1);
                }
            }
        }
    }

    private static void pay() {
        for (int x : WAYS) {
            for (int y : WAYS) {
                for (int v : PAYS) {
                    String call = "pay(" + x + ", " + y + ", " + v + ")";
                    if (in(x, 0, 1) && in(y, 0, 1) && in(v, -9, 9)) {
                        ROW.takes(call, net -> net.pay(x, y, v));
                    } else {
                        ROW.refuses(call, net -> net.pay(x, y, v), -100002);
                    }
                }
            }
        }
    }

    private static void wage() {
        for (int player : PLAYERS) {
            for (int what : WAYS) {
                String call = "wage(" + player + ", " + what + ")";
                if (!in(player, 0, 2)) {
                    ROW.refuses(call + ": UNKNOWN first", net -> net.wage(player, what), -100001);
                } else if (!in(what, 0, 1)) {
                    ROW.refuses(call, net -> net.wage(player, what), -100002);
                } else {
                    ROW.takes(call, net -> net.wage(player, what));
                }
            }
        }
    }

    private static void stepAfterGoes() {
        for (int rule : RULES) {
            for (int n : COUNTS) {
                if (!in(rule, 0, 3) || !in(n, 1, 100)) {
                    ROW.refuses("step(" + rule + ", " + n + ")", net -> net.step(rule, n), -2);
                }
            }
            for (int bits : STATES) {
                if (!in(rule, 0, 3) || !in(bits, 0, 7)) {
                    ROW.refuses("after(" + rule + ", " + bits + ")",
                            net -> net.after(rule, bits), -2);
                }
            }
            for (int what : WHATS) {
                if (!in(rule, 0, 3) || !in(what, 0, 3)) {
                    ROW.refuses("goes(" + rule + ", " + what + ")",
                            net -> net.goes(rule, what), -2);
                }
            }
        }
    }

    /** "NONE. OUTSIDE: the RULE": a bad RULE is refused whatever i may be, i alone never is. */
    private static void endAndBefore() {
        for (int rule : RULES) {
            for (int i : PLACES) {
                String by = "(" + rule + ", " + i + ")";
                if (!in(rule, 0, 3)) {
                    ROW.refuses("end" + by, net -> net.end(rule, i), -2);
                    ROW.refuses("before" + by, net -> net.before(rule, i), -2);
                } else if (!in(i, -1, 7)) {
                    ROW.refuses("end" + by, net -> net.end(rule, i), -6);
                    ROW.refuses("before" + by, net -> net.before(rule, i), -6);
                }
            }
        }
    }

    private static void basin() {
        for (int rule : RULES) {
            for (int i : PLACES) {
                for (int what : WHATS) {
                    String call = "basin(" + rule + ", " + i + ", " + what + ")";
                    if (!in(rule, 0, 3) || !in(what, 0, 2)) {
                        ROW.refuses(call + ": OUTSIDE first", net -> net.basin(rule, i, what), -2);
                    } else if (i != 0) {
                        ROW.refuses(call, net -> net.basin(rule, i, what), -6);
                    }
                }
            }
        }
    }

    private static void hangs() {
        for (int bits : STATES) {
            for (int hundredths : COUNTS) {
                String call = "hangs(" + bits + ", " + hundredths + ")";
                if (in(bits, 0, 7) && in(hundredths, 1, 100)) {
                    ROW.takes(call, net -> net.hangs(bits, hundredths));
                } else {
                    ROW.refuses(call, net -> net.hangs(bits, hundredths), -2);
                }
            }
        }
    }

    /** "OUTSIDE; STATE: there is none": where there is no SHARE, a bad `what` is OUTSIDE still. */
    private static void share() {
        for (int what : WHATS) {
            GameNet net = new GameNet();
            Nets.pays(net, 0, 0, 0, 0);
            int due = in(what, 0, 1) ? -3 : -2;
            Due.is("share(" + what + ") where there is none", net.share(what), due);
            Due.is("share(" + what + ") again", net.share(what), due);
            for (int pay = 10; pay <= 13; pay++) {
                Due.is("share(" + what + ") leaves told(" + pay + ")", net.told(pay), 0);
            }
        }
    }
}
