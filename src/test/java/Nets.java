/** Small nets whose answers can be worked out by hand. */
final class Nets {
    private Nets() {
    }

    /** 0 - 1 - 2 in a row, with weights 2 and 3; the pays of a new object. */
    static GameNet row() {
        GameNet net = new GameNet();
        net.players(3);
        net.line(0, 1, 2);
        net.line(1, 2, 3);
        return net;
    }

    static void pays(GameNet net, int zeroZero, int zeroOne, int oneZero, int oneOne) {
        net.pay(0, 0, zeroZero);
        net.pay(0, 1, zeroOne);
        net.pay(1, 0, oneZero);
        net.pay(1, 1, oneOne);
    }

    /** What follows each state by a rule, asked one by one. */
    static void follow(String where, GameNet net, int rule, int... due) {
        for (int bits = 0; bits < due.length; bits++) {
            Due.is(where + ": after(" + rule + ", " + bits + ")", net.after(rule, bits), due[bits]);
        }
    }
}
