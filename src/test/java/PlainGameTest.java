import java.util.Random;

/** Long mixed runs of calls, each answer held against the plain game's; always the same runs. */
public final class PlainGameTest {
    /** With the fourteen at its end a run has 512 calls: as many as an object is used for. */
    private static final int CALLS = 498;
    private static final int[] EDGES = {Integer.MIN_VALUE, -7, -6, -3, -2, -1, 0, 1, 2, 3, 4, 9,
        10, 11, 13, 14, 99, 100, 101, 1023, 1024, Integer.MAX_VALUE};

    private final Random dice;
    private final GameNet net = new GameNet();
    private final PlainGame plain = new PlainGame();
    private final int most;
    private final StringBuilder run = new StringBuilder();
    private boolean right = true;

    private PlainGameTest(int seed, int most) {
        dice = new Random(seed);
        this.most = most;
        run.append("seed ").append(seed).append(':');
    }

    public static void main(String[] args) {
        for (int seed = 1; seed <= 300; seed++) {
            new PlainGameTest(seed, 5).play();
        }
        for (int seed = 301; seed <= 360; seed++) {
            new PlainGameTest(seed, 7).play();
        }
        for (int seed = 361; seed <= 366; seed++) {
            new PlainGameTest(seed, 10).play();
        }
        Due.end();
    }

    private void play() {
        int calls = most > 7 ? CALLS / 4 : CALLS;
        for (int call = 0; call < calls && right; call++) {
            if (dice.nextInt(3) == 0) {
                change();
            } else {
                ask();
            }
        }
        for (int what = 0; what <= 13 && right; what++) {
            same("told", net.told(what), plain.told(what), what);
        }
    }

    /** Mostly a number from least to greatest, at times one that may be far outside. */
    private int number(int least, int greatest) {
        return dice.nextInt(25) == 0 ? EDGES[dice.nextInt(EDGES.length)]
                : least + dice.nextInt(greatest - least + 1);
    }

    private int player() {
        return number(0, plain.n - 1);
    }

    private int set() {
        return number(0, (1 << plain.n) - 1);
    }

    private int rule() {
        return number(0, 3);
    }

    private void change() {
        int a = player();
        int b = player();
        switch (dice.nextInt(24)) {
            case 0:
                int count = number(2, most);
                if (count <= most || count > 10) {
                    same("players", net.players(count), plain.players(count), count);
                }
                break;
            case 1:
            case 2:
            case 3:
                int x = number(0, 1);
                int y = number(0, 1);
                int v = dice.nextInt(8) == 0 ? number(-10, 10) : number(-2, 3);
                same("pay", net.pay(x, y, v), plain.pay(x, y, v), x, y, v);
                break;
            case 4:
            case 5:
                int height = dice.nextBoolean() ? 50 : number(0, 100);
                same("bar", net.bar(height), plain.bar(height), height);
                break;
            case 6:
            case 7:
            case 8:
                boolean is = dice.nextInt(3) == 0;
                same("hold", net.hold(a, is), plain.hold(a, is), a, is ? 1 : 0);
                break;
            case 9:
            case 10:
            case 11:
                int bits = set();
                same("state", net.state(bits), plain.state(bits), bits);
                break;
            case 12:
            case 13:
                int rule = rule();
                int times = dice.nextBoolean() ? 1 : number(1, 100);
                same("step", net.step(rule, times), plain.step(rule, times), rule, times);
                break;
            default:
                int w = dice.nextInt(4) == 0 ? number(0, 9) : number(0, 1);
                same("line", net.line(a, b, w), plain.line(a, b, w), a, b, w);
                break;
        }
    }

    private void ask() {
        int rule = rule();
        int i = number(-1, 4);
        int what = number(0, 3);
        int bits = set();
        int player = player();
        switch (dice.nextInt(17)) {
            case 0:
                int b = player();
                same("weight", net.weight(player, b), plain.weight(player, b), player, b);
                break;
            case 1:
                int whose = number(0, 1);
                same("wage", net.wage(player, whose), plain.wage(player, whose), player, whose);
                break;
            case 2:
                same("sum", net.sum(), plain.sum());
                break;
            case 3:
                same("after", net.after(rule, bits), plain.after(rule, bits), rule, bits);
                break;
            case 4:
                same("goes", net.goes(rule, what), plain.goes(rule, what), rule, what);
                break;
            case 5:
                same("end", net.end(rule, i), plain.end(rule, i), rule, i);
                break;
            case 6:
                same("basin", net.basin(rule, i, what), plain.basin(rule, i, what), rule, i, what);
                break;
            case 7:
                same("lone", net.lone(rule), plain.lone(rule), rule);
                break;
            case 8:
                same("before", net.before(rule, i), plain.before(rule, i), rule, i);
                break;
            case 9:
                same("rise", net.rise(), plain.rise());
                break;
            case 10:
                same("highest", net.highest(), plain.highest());
                break;
            case 11:
                same("rests", net.rests(), plain.rests());
                break;
            case 12:
                same("restMany", net.restMany(), plain.restMany());
                break;
            case 13:
                same("tip", net.tip(rule), plain.tip(rule), rule);
                break;
            case 14:
                int upper = number(0, 1);
                same("share", net.share(upper), plain.share(upper), upper);
                break;
            case 15:
                int part = dice.nextBoolean() ? 50 : number(1, 100);
                same("hangs", net.hangs(bits, part), plain.hangs(bits, part), bits, part);
                break;
            default:
                int told = number(0, 14);
                same("told", net.told(told), plain.told(told), told);
                break;
        }
    }

    private void same(String name, int got, int want, int... given) {
        StringBuilder call = new StringBuilder(name).append('(');
        for (int k = 0; k < given.length; k++) {
            call.append(k == 0 ? "" : ", ").append(given[k]);
        }
        call.append(')');
        Due.is(got == want ? "" : run + " " + call, got, want);
        run.append(' ').append(call).append(" = ").append(want).append(';');
        right &= got == want;
    }
}
