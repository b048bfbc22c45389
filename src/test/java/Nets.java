/** Small nets whose answers can be worked out by hand. */
final class Nets {
    private Nets() {
    }

    /** 0 - 1 - 2 in a row, with weights 2 and 3; the pays of a new object. */
    static GameNet row() {
        GameNet net = new GameNet();
        net.players(3);
        net.line(0, 1, 2);
        net.line(1, 2, 3);
        return net;
    }

    /** Lines of one weight between all. */
    static GameNet full(int players, int weight) {
        GameNet net = new GameNet();
        net.players(players);
        for (int a = 0; a < players; a++) {
            for (int b = 0; b < a; b++) {
                net.line(a, b, weight);
            }
        }
        return net;
    }

    /** The last has lines of one weight with all others, who have none among themselves. */
    static GameNet star(int players, int weight) {
        GameNet net = new GameNet();
        net.players(players);
        for (int player = 0; player < players - 1; player++) {
            net.line(player, players - 1, weight);
        }
        return net;
    }

    /** Ten in a row, with weights from 9 down to 1: each heeds the one ahead of it more. */
    static GameNet fallingRow() {
        GameNet net = new GameNet();
        net.players(10);
        for (int player = 0; player < 9; player++) {
            net.line(player, player + 1, 9 - player);
        }
        return net;
    }

    /** Ten in a row, with weights from 1 up to 9: each heeds the one behind it more. */
    static GameNet risingRow() {
        GameNet net = new GameNet();
        net.players(10);
        for (int player = 0; player < 9; player++) {
            net.line(player, player + 1, player + 1);
        }
        return net;
    }

    /** Ten players, all lines; playing 1 is paid best beside anyone, and every bar is reached. */
    static GameNet allWantOne() {
        GameNet net = full(10, 9);
        pays(net, -9, -9, 9, 9);
        net.bar(0);
        return net;
    }

    /** Six players, COPY: 1, 3, 33, 47, 45, 13, 15 and 1 again. */
    static GameNet ringOfSeven() {
        GameNet net = new GameNet();
        net.players(6);
        net.line(0, 1, 1);
        net.line(1, 4, 1);
        net.line(1, 5, 1);
        net.line(5, 2, 1);
        net.line(5, 3, 1);
        pays(net, -4, 3, 2, -6);
        return net;
    }

    /** Five players, COPY: 1, 17, 3, 23, 7, 5 and 23 again. */
    static GameNet ringOfThree() {
        GameNet net = new GameNet();
        net.players(5);
        net.line(1, 2, 1);
        net.line(4, 0, 1);
        net.line(4, 1, 1);
        net.line(4, 3, 1);
        pays(net, -4, 4, 4, -5);
        return net;
    }

    static void holdAll(GameNet net) {
        int players = net.told(0);
        for (int player = 0; player < players; player++) {
            net.hold(player, true);
        }
    }

    static void pays(GameNet net, int zeroZero, int zeroOne, int oneZero, int oneOne) {
        net.pay(0, 0, zeroZero);
        net.pay(0, 1, zeroOne);
        net.pay(1, 0, oneZero);
        net.pay(1, 1, oneOne);
    }

    /** What follows each state by a rule, asked one by one. */
    static void follow(String where, GameNet net, int rule, int... due) {
        for (int bits = 0; bits < due.length; bits++) {
            Due.is(where + ": after(" + rule + ", " + bits + ")", net.after(rule, bits), due[bits]);
        }
    }
}
