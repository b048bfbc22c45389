/** Promises 1 to 10 and 25: the net, the game, and what is told of them. */
public final class NetTest {
    public static void main(String[] args) {
        promise1NewObject();
        promise2Players();
        promise3Line();
        promise4Weight();
        promise5Pay();
        promise6Bar();
        promise7Hold();
        promise8State();
        promise9Wage();
        promise10Sum();
        promise25Told();
        Due.end();
    }

    private static void promise1NewObject() {
        GameNet net = new GameNet();
        Due.is("1: told(0)", net.told(0), 4);
        Due.is("1: told(1)", net.told(1), 0);
        Due.is("1: told(2)", net.told(2), 0);
        Due.is("1: told(3)", net.told(3), 0);
        Due.is("1: told(4)", net.told(4), 50);
        Due.is("1: told(10)", net.told(10), 1);
        Due.is("1: told(11)", net.told(11), 0);
        Due.is("1: told(12)", net.told(12), 0);
        Due.is("1: told(13)", net.told(13), 1);
        for (int a = 0; a < 4; a++) {
            for (int b = 0; b < 4; b++) {
                Due.is("1: weight(" + a + ", " + b + ")", net.weight(a, b), a == b ? -1 : 0);
            }
        }
        GameNet other = new GameNet();
        other.players(9);
        other.pay(0, 0, 5);
        Due.is("1: objects share nothing", net.told(0), 4);
        Due.is("1: objects share no pays", net.told(10), 1);
    }

    private static void promise2Players() {
        GameNet net = new GameNet();
        Due.is("2: players(10)", net.players(10), 4);
        Due.is("2: players(2)", net.players(2), 10);
        Due.is("2: players(1)", net.players(1), -2);
        Due.is("2: players(11)", net.players(11), -2);
        Due.is("2: players(-1)", net.players(-1), -2);
        Due.is("2: told(0)", net.told(0), 2);

        net = Nets.row();
        net.pay(0, 1, -4);
        net.bar(70);
        net.hold(1, true);
        net.state(5);
        Due.is("2: players(3)", net.players(3), 3);
        Due.is("2: no lines", net.told(1), 0);
        Due.is("2: weight(0, 1)", net.weight(0, 1), 0);
        Due.is("2: weight(2, 1)", net.weight(2, 1), 0);
        Due.is("2: none held", net.told(2), 0);
        Due.is("2: state 0", net.told(3), 0);
        Due.is("2: bar stays", net.told(4), 70);
        Due.is("2: pays stay", net.told(11), -4);
        net.state(7);
        Due.is("2: no wages", net.sum(), 0);
        Due.is("2: without lines the bar moves none", net.after(2, 5), 5);
    }

    private static void promise3Line() {
        GameNet net = new GameNet();
        Due.is("3: line(0, 3, 9)", net.line(0, 3, 9), 0);
        Due.is("3: line(3, 0, 4)", net.line(3, 0, 4), 9);
        Due.is("3: line(0, 3, 0)", net.line(0, 3, 0), 4);
        Due.is("3: line(0, 3, 1)", net.line(0, 3, 1), 0);
        Due.is("3: line(0, 3, 10)", net.line(0, 3, 10), -2);
        Due.is("3: line(0, 3, -1)", net.line(0, 3, -1), -2);
        Due.is("3: line(2, 2, 1)", net.line(2, 2, 1), -1);
        Due.is("3: line(2, 4, 1)", net.line(2, 4, 1), -1);
        Due.is("3: line(4, 2, 1)", net.line(4, 2, 1), -1);
        Due.is("3: line(-1, 2, 1)", net.line(-1, 2, 1), -1);
        Due.is("3: line(2, -1, 1)", net.line(2, -1, 1), -1);
        Due.is("3: first UNKNOWN", net.line(2, 2, 10), -1);
        Due.is("3: first UNKNOWN", net.line(9, 2, -1), -1);
        Due.is("3: weight(3, 0)", net.weight(3, 0), 1);
        Due.is("3: told(1)", net.told(1), 1);
    }

    private static void promise4Weight() {
        GameNet net = Nets.row();
        Due.is("4: weight(0, 1)", net.weight(0, 1), 2);
        Due.is("4: weight(1, 0)", net.weight(1, 0), 2);
        Due.is("4: weight(2, 1)", net.weight(2, 1), 3);
        Due.is("4: weight(0, 2)", net.weight(0, 2), 0);
        Due.is("4: weight(1, 1)", net.weight(1, 1), -1);
        Due.is("4: weight(0, 3)", net.weight(0, 3), -1);
        Due.is("4: weight(3, 0)", net.weight(3, 0), -1);
        Due.is("4: weight(-1, 0)", net.weight(-1, 0), -1);
        Due.is("4: weight(0, -1)", net.weight(0, -1), -1);
    }

    private static void promise5Pay() {
        GameNet net = new GameNet();
        Due.is("5: pay(0, 0, 9)", net.pay(0, 0, 9), 1);
        Due.is("5: pay(0, 1, -9)", net.pay(0, 1, -9), 0);
        Due.is("5: pay(1, 0, 3)", net.pay(1, 0, 3), 0);
        Due.is("5: pay(1, 1, -2)", net.pay(1, 1, -2), 1);
        Due.is("5: pay(0, 0, 0)", net.pay(0, 0, 0), 9);
        Due.is("5: pay(0, 1, 0)", net.pay(0, 1, 0), -9);
        Due.is("5: pay(2, 0, 0)", net.pay(2, 0, 0), -100002);
        Due.is("5: pay(-1, 0, 0)", net.pay(-1, 0, 0), -100002);
        Due.is("5: pay(0, 2, 0)", net.pay(0, 2, 0), -100002);
        Due.is("5: pay(0, -1, 0)", net.pay(0, -1, 0), -100002);
        Due.is("5: pay(0, 0, 10)", net.pay(0, 0, 10), -100002);
        Due.is("5: pay(0, 0, -10)", net.pay(0, 0, -10), -100002);
        Due.is("5: told(12)", net.told(12), 3);
        Due.is("5: told(13)", net.told(13), -2);
    }

    private static void promise6Bar() {
        GameNet net = new GameNet();
        Due.is("6: bar(0)", net.bar(0), 50);
        Due.is("6: bar(100)", net.bar(100), 0);
        Due.is("6: bar(101)", net.bar(101), -2);
        Due.is("6: bar(-1)", net.bar(-1), -2);
        Due.is("6: bar(7)", net.bar(7), 100);
    }

    private static void promise7Hold() {
        GameNet net = new GameNet();
        Due.is("7: hold(3, true)", net.hold(3, true), 0);
        Due.is("7: hold(3, true)", net.hold(3, true), 1);
        Due.is("7: hold(0, false)", net.hold(0, false), 0);
        Due.is("7: hold(0, true)", net.hold(0, true), 0);
        Due.is("7: told(2)", net.told(2), 9);
        Due.is("7: hold(3, false)", net.hold(3, false), 1);
        Due.is("7: told(2)", net.told(2), 1);
        Due.is("7: hold(4, true)", net.hold(4, true), -1);
        Due.is("7: hold(-1, true)", net.hold(-1, true), -1);
        Due.is("7: told(2)", net.told(2), 1);
    }

    private static void promise8State() {
        GameNet net = new GameNet();
        Due.is("8: state(15)", net.state(15), 0);
        Due.is("8: state(16)", net.state(16), -2);
        Due.is("8: state(-1)", net.state(-1), -2);
        net.hold(0, true);
        Due.is("8: state(6), held ones too", net.state(6), 15);
        Due.is("8: told(3)", net.told(3), 6);
        net.players(10);
        Due.is("8: state(1023)", net.state(1023), 0);
        Due.is("8: state(1024)", net.state(1024), -2);
    }

    private static void promise9Wage() {
        GameNet net = Nets.row();
        net.state(1);
        Due.is("9: wage(0, 0)", net.wage(0, 0), 0);
        Due.is("9: wage(0, 1)", net.wage(0, 1), 2);
        Due.is("9: wage(1, 0)", net.wage(1, 0), 3);
        Due.is("9: wage(1, 1)", net.wage(1, 1), 2);
        Due.is("9: wage(2, 0)", net.wage(2, 0), 3);
        Due.is("9: wage(2, 1)", net.wage(2, 1), 0);
        Nets.pays(net, -1, 4, 7, -9);
        Due.is("9: wage(0, 0), pays of 1 beside 0", net.wage(0, 0), 14);
        Due.is("9: wage(1, 0), pays of 0 beside 1 and 0", net.wage(1, 0), 2 * 4 - 3);
        Due.is("9: wage(1, 1)", net.wage(1, 1), -2 * 9 + 3 * 7);
        Due.is("9: wage(3, 0)", net.wage(3, 0), -100001);
        Due.is("9: wage(-1, 0)", net.wage(-1, 0), -100001);
        Due.is("9: wage(0, 2)", net.wage(0, 2), -100002);
        Due.is("9: wage(0, -1)", net.wage(0, -1), -100002);
        Due.is("9: first UNKNOWN", net.wage(3, 2), -100001);
        net.players(2);
        Due.is("9: no lines, no wage", net.wage(1, 1), 0);
    }

    private static void promise10Sum() {
        GameNet net = Nets.row();
        Due.is("10: sum()", net.sum(), 10);
        net.state(1);
        Due.is("10: sum()", net.sum(), 6);
        net.state(2);
        Due.is("10: sum()", net.sum(), 0);
        Nets.pays(net, 0, -9, 2, 0);
        Due.is("10: sum()", net.sum(), -9 * 5 + 2 * 5);
    }

    private static void promise25Told() {
        GameNet net = Nets.row();
        net.line(0, 2, 9);
        net.line(0, 1, 0);
        net.hold(0, true);
        net.hold(2, true);
        net.state(6);
        net.bar(33);
        Nets.pays(net, -5, 6, -7, 8);
        Due.is("25: told(0)", net.told(0), 3);
        Due.is("25: told(1)", net.told(1), 2);
        Due.is("25: told(2)", net.told(2), 5);
        Due.is("25: told(3)", net.told(3), 6);
        Due.is("25: told(4)", net.told(4), 33);
        Due.is("25: told(10)", net.told(10), -5);
        Due.is("25: told(11)", net.told(11), 6);
        Due.is("25: told(12)", net.told(12), -7);
        Due.is("25: told(13)", net.told(13), 8);
        int[] outside = {-1, 5, 9, 14, Integer.MIN_VALUE, Integer.MAX_VALUE};
        for (int what : outside) {
            Due.is("25: told(" + what + ")", net.told(what), -100002);
        }
    }
}
