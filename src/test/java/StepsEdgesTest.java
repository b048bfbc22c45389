/** Promises 11 to 17 at the ends of their ranges; each method holds one sentence. */
public final class StepsEdgesTest {
    private static final int REPLY = 0;
    private static final int COPY = 1;
    private static final int BAR = 2;
    private static final int IN_TURN = 3;
    private static final int[] SOME_STATES = {0, 1, 2, 341, 511, 512, 682, 1022, 1023};

    public static void main(String[] args) {
        changesBehindACallAreSeen();
        promise11OneStepAndAHundred();
        promise11AllHeld();
        promise12FirstAndLastState();
        promise13TailNought();
        promise13LongTail();
        promise13EachStateOfALongTail();
        promise13LongRing();
        promise13FirstThatComesAgain();
        promise14OneEnd();
        promise14AsManyEndsAsBeginnings();
        promise14InOrderByTheLeast();
        promise14TheLeastIsNotTheFirstMet();
        promise14Held();
        promise15FirstAndLastEnd();
        promise15AllBeginningsComeSomewhere();
        promise15TailNought();
        promise15TailOfOneAlone();
        promise16NoneAndMost();
        promise17NoneAndAll();
        promise17FirstAndLast();
        Due.end();
    }

    /** What a call told of all BEGINNINGS is not told again, when what it came from is no more. */
    private static void changesBehindACallAreSeen() {
        for (int rule : new int[] {REPLY, BAR, IN_TURN}) {
            GameNet net = Nets.allWantOne();
            Due.is("seen, " + rule, net.end(rule, 0), 1023);
            net.hold(0, true);
            Due.is("seen, 0 held at 0, " + rule, net.end(rule, 0), 1022);
            net.hold(9, true);
            Due.is("seen, 9 held at 0 too, " + rule, net.end(rule, 0), 510);
            net.state(1);
            Due.is("seen, 0 held at 1, " + rule, net.end(rule, 0), 511);
            net.hold(9, false);
            Due.is("seen, 9 held no more, " + rule, net.end(rule, 0), 1023);
            net.players(2);
            Due.is("seen, two without lines, " + rule, net.end(rule, -1), 4);
            net.line(0, 1, 1);
            Due.is("seen, with a line, " + rule, net.end(rule, -1), 1);
            Nets.pays(net, 9, 9, -9, -9);
            net.bar(100);
            Due.is("seen, all want 0, " + rule, net.end(rule, 0), 0);
        }
    }

    /** "n STEPS (1 to 100)": in a ring of seven each number of steps tells. */
    private static void promise11OneStepAndAHundred() {
        int[] ring = {1, 3, 33, 47, 45, 13, 15};
        for (int n : new int[] {1, 2, 3, 4, 5, 6, 7, 8, 50, 98, 99, 100}) {
            GameNet net = Nets.ringOfSeven();
            net.state(1);
            Due.is("11: step(1, " + n + ")", net.step(COPY, n), ring[n % 7]);
            Due.is("11: the state", net.told(3), ring[n % 7]);
        }
        GameNet net = Nets.ringOfSeven();
        net.state(1);
        Due.is("11: step(1, 0)", net.step(COPY, 0), -2);
        Due.is("11: step(1, 101)", net.step(COPY, 101), -2);
        Due.is("11: the state stays", net.told(3), 1);
        for (int rule = 0; rule <= 3; rule++) {
            net = Nets.row();
            net.state(3);
            int after = net.after(rule, 3);
            Due.is("11: one step is what comes behind, " + rule, net.step(rule, 1), after);
        }
    }

    private static void promise11AllHeld() {
        GameNet net = Nets.allWantOne();
        Nets.holdAll(net);
        for (int rule = 0; rule <= 3; rule++) {
            net.state(341);
            Due.is("11: all held, step(" + rule + ", 100)", net.step(rule, 100), 341);
        }
        net.players(10);
        for (int rule = 0; rule <= 3; rule++) {
            net.state(682);
            Due.is("11: no lines, step(" + rule + ", 100)", net.step(rule, 100), 682);
        }
    }

    private static void promise12FirstAndLastState() {
        for (int n = 2; n <= 10; n++) {
            GameNet net = Nets.full(n, 1);
            int last = (1 << n) - 1;
            for (int rule = 0; rule <= 3; rule++) {
                Due.is("12: the first", net.after(rule, 0), 0);
                Due.is("12: the last", net.after(rule, last), last);
                Due.is("12: the one behind it", net.after(rule, last + 1), -2);
                Due.is("12: the one ahead of the first", net.after(rule, -1), -2);
            }
            Due.is("12: the state stays", net.told(3), 0);
        }
    }

    private static void goes(String where, GameNet net, int rule, int... due) {
        for (int what = 0; what <= 3; what++) {
            Due.is("13: " + where + ", goes(" + rule + ", " + what + ")", net.goes(rule, what),
                    due[what]);
        }
    }

    /** "TAIL: the STEPS to the first STATE that comes again": 0, where THE STATE itself does. */
    private static void promise13TailNought() {
        GameNet net = Nets.full(10, 1);
        for (int rule = 0; rule <= 3; rule++) {
            net.state(0);
            goes("the first state", net, rule, 0, 1, 0, 0);
            net.state(1023);
            goes("the last state", net, rule, 0, 1, 1023, 1023);
        }
        Nets.pays(net, 0, 1, 1, 0);
        net.state(1023);
        goes("from the greatest of a ring of all", net, REPLY, 0, 2, 0, 1023);
        Nets.holdAll(net);
        for (int rule = 0; rule <= 3; rule++) {
            net.state(341);
            goes("all held", net, rule, 0, 1, 341, 341);
        }
        Due.is("13: the state stays", net.told(3), 341);
    }

    /** One after the other, nine go over. */
    private static void promise13LongTail() {
        GameNet net = Nets.risingRow();
        net.hold(9, true);
        net.state(512);
        for (int rule : new int[] {REPLY, BAR, IN_TURN}) {
            goes("the last held at 1", net, rule, 9, 1, 1023, 1023);
        }
        net.state(511);
        for (int rule : new int[] {REPLY, BAR, IN_TURN}) {
            goes("the last held at 0", net, rule, 9, 1, 0, 0);
        }
        net = Nets.fallingRow();
        net.hold(0, true);
        net.state(1);
        goes("the first held at 1", net, REPLY, 9, 1, 1023, 1023);
        goes("the first held at 1", net, BAR, 9, 1, 1023, 1023);
        goes("the first held at 1", net, IN_TURN, 1, 1, 1023, 1023);
    }

    private static void promise13EachStateOfALongTail() {
        GameNet net = Nets.risingRow();
        net.hold(9, true);
        for (int gone = 0; gone <= 9; gone++) {
            net.state(1023 - (1 << 9 - gone) + 1);
            goes(gone + " gone over", net, REPLY, 9 - gone, 1, 1023, 1023);
        }
        basin("the last held at 1", net, REPLY, 0, 512, 1, 9);
    }

    /** "RING: the STEPS from that to itself". */
    private static void promise13LongRing() {
        GameNet net = Nets.ringOfSeven();
        for (int at : new int[] {1, 3, 33, 47, 45, 13, 15}) {
            net.state(at);
            goes("ring of seven from " + at, net, COPY, 0, 7, 1, at);
        }
        Due.is("13: the state stays", net.told(3), 15);
        net = Nets.ringOfThree();
        int[] way = {1, 17, 3, 23, 7, 5};
        for (int done = 0; done < way.length; done++) {
            net.state(way[done]);
            goes("ring of three from " + way[done], net, COPY, Math.max(3 - done, 0), 3, 5,
                    way[Math.max(3, done)]);
        }
    }

    /** "3 the first STATE that comes again": not the least of its RING, nor the one asked from. */
    private static void promise13FirstThatComesAgain() {
        GameNet net = Nets.row();
        net.state(3);
        goes("from 3 into the ring of 5 and 2", net, REPLY, 1, 2, 2, 5);
        net.state(4);
        goes("from 4 into the ring of 2 and 5", net, REPLY, 1, 2, 2, 2);
    }

    private static void promise14OneEnd() {
        GameNet net = Nets.allWantOne();
        for (int rule : new int[] {REPLY, BAR, IN_TURN}) {
            Due.is("14: one end", net.end(rule, -1), 1);
            Due.is("14: the first", net.end(rule, 0), 1023);
            Due.is("14: the i behind it", net.end(rule, 1), -6);
            Due.is("14: the i ahead of -1", net.end(rule, -2), -6);
        }
        Due.is("14: COPY ends at all 0 too", net.end(COPY, -1), 2);
    }

    private static void promise14AsManyEndsAsBeginnings() {
        for (int n = 2; n <= 10; n++) {
            GameNet net = new GameNet();
            net.players(n);
            int last = (1 << n) - 1;
            for (int rule = 0; rule <= 3; rule++) {
                Due.is("14: no lines, how many", net.end(rule, -1), last + 1);
                Due.is("14: no lines, the first", net.end(rule, 0), 0);
                Due.is("14: no lines, the second", net.end(rule, 1), 1);
                Due.is("14: no lines, the last", net.end(rule, last), last);
                Due.is("14: no lines, the i behind it", net.end(rule, last + 1), -6);
            }
        }
    }

    /** "told by their least STATE, in order of these". */
    private static void promise14InOrderByTheLeast() {
        // Two pairs: each is at 0 0, at 1 1 (a rest), or goes to and fro between 0 1 and 1 0.
        GameNet net = new GameNet();
        net.line(0, 1, 1);
        net.line(2, 3, 1);
        int[] due = {0, 1, 3, 4, 5, 6, 7, 12, 13, 15};
        Due.is("14: two pairs, how many", net.end(REPLY, -1), due.length);
        for (int i = 0; i < due.length; i++) {
            Due.is("14: two pairs, end(0, " + i + ")", net.end(REPLY, i), due[i]);
        }
        Due.is("14: two pairs, the i behind it", net.end(REPLY, due.length), -6);
        Due.is("14: ring of seven", Nets.ringOfSeven().end(COPY, 1), 1);
    }

    /** From 1 the ring of 3 and 4 is come to at 4; the END is told by 3 all the same. */
    private static void promise14TheLeastIsNotTheFirstMet() {
        GameNet net = new GameNet();
        net.players(3);
        net.line(0, 2, 1);
        net.line(1, 2, 1);
        net.pay(1, 1, 2);
        Nets.follow("14: a ring of 3 and 4", net, REPLY, 0, 4, 4, 4, 3, 7, 7, 7);
        Due.is("14: a ring of 3 and 4, how many", net.end(REPLY, -1), 3);
        Due.is("14: a ring of 3 and 4, the first", net.end(REPLY, 0), 0);
        Due.is("14: a ring of 3 and 4, its least", net.end(REPLY, 1), 3);
        Due.is("14: a ring of 3 and 4, the last", net.end(REPLY, 2), 7);
        basin("a ring of 3 and 4", net, REPLY, 1, 4, 2, 1);
        net.state(1);
        goes("a ring of 3 and 4 from 1", net, REPLY, 1, 2, 3, 4);

        // Here the least is the last that is met: 23, 7, 5.
        net = Nets.ringOfThree();
        Due.is("14: a ring of three, how many", net.end(COPY, -1), 6);
        Due.is("14: a ring of three, its least", net.end(COPY, 1), 5);
        basin("a ring of three", net, COPY, 1, 8, 3, 4);
    }

    /** "BEGINNINGS: all STATES in which HELD ones have the WAYS that they have in THE STATE." */
    private static void promise14Held() {
        GameNet net = new GameNet();
        net.players(10);
        Nets.holdAll(net);
        for (int bits : SOME_STATES) {
            net.state(bits);
            for (int rule = 0; rule <= 3; rule++) {
                Due.is("14: all held, how many", net.end(rule, -1), 1);
                Due.is("14: all held, the first", net.end(rule, 0), bits);
                Due.is("14: all held, the i behind it", net.end(rule, 1), -6);
            }
        }
        net.hold(9, false);
        net.state(1023);
        Due.is("14: all but 9 held, how many", net.end(REPLY, -1), 2);
        Due.is("14: all but 9 held, the first", net.end(REPLY, 0), 511);
        Due.is("14: all but 9 held, the last", net.end(REPLY, 1), 1023);
        Due.is("14: all but 9 held, the i behind it", net.end(REPLY, 2), -6);
    }

    private static void basin(String where, GameNet net, int rule, int i, int... due) {
        for (int what = 0; what <= 2; what++) {
            Due.is("15: " + where + ", basin(" + rule + ", " + i + ", " + what + ")",
                    net.basin(rule, i, what), due[what]);
        }
    }

    /** "NONE: there is no END i". */
    private static void promise15FirstAndLastEnd() {
        GameNet net = new GameNet();
        net.line(0, 1, 1);
        net.line(2, 3, 1);
        basin("two pairs at 0", net, REPLY, 0, 1, 1, 0);
        basin("one to and fro", net, REPLY, 1, 2, 2, 0);
        basin("both to and fro, alike", net, REPLY, 4, 2, 2, 0);
        basin("two pairs at 1", net, REPLY, 9, 1, 1, 0);
        basin("the i behind it", net, REPLY, 10, -6, -6, -6);
        basin("the i ahead of the first", net, REPLY, -1, -6, -6, -6);
        basin("the least i", net, REPLY, Integer.MIN_VALUE, -6, -6, -6);
        basin("the greatest i", net, REPLY, Integer.MAX_VALUE, -6, -6, -6);
        Due.is("15: what -1", net.basin(REPLY, 0, -1), -2);
        Due.is("15: what 3", net.basin(REPLY, 0, 3), -2);
    }

    private static void promise15AllBeginningsComeSomewhere() {
        GameNet net = Nets.allWantOne();
        basin("all come to one", net, REPLY, 0, 1024, 1, 1);
        basin("all 0, by COPY", net, COPY, 0, 1, 1, 0);
        basin("the rest, by COPY", net, COPY, 1, 1023, 1, 1);
        net.hold(0, true);
        basin("half of them, 0 held at 0", net, REPLY, 0, 512, 1, 1);
        net = Nets.risingRow();
        net.hold(9, true);
        basin("the last held", net, REPLY, 0, 512, 1, 9);
        basin("the last held", net, BAR, 0, 512, 1, 9);
        basin("ring of seven", Nets.ringOfSeven(), COPY, 1, 8, 7, 1);
    }

    /** The greatest TAIL is 0 where only the RING itself comes to it. */
    private static void promise15TailNought() {
        GameNet net = new GameNet();
        net.players(10);
        for (int rule = 0; rule <= 3; rule++) {
            basin("no lines, the first", net, rule, 0, 1, 1, 0);
            basin("no lines, the last", net, rule, 1023, 1, 1, 0);
            basin("no lines, the i behind it", net, rule, 1024, -6, -6, -6);
        }
        Nets.holdAll(net);
        net.state(341);
        for (int rule = 0; rule <= 3; rule++) {
            basin("all held", net, rule, 0, 1, 1, 0);
            basin("all held, the i behind it", net, rule, 1, -6, -6, -6);
        }
    }

    /** "the greatest TAIL of these BEGINNINGS": only the first, only the last STATE has one. */
    private static void promise15TailOfOneAlone() {
        GameNet net = Nets.full(2, 1);
        Nets.pays(net, 0, 1, 1, 0);
        net.hold(0, true);
        for (int rule : new int[] {REPLY, IN_TURN}) {
            net.state(0);
            Due.is("15: the end of 0", net.end(rule, 0), 2);
            basin("0 alone has a tail", net, rule, 0, 2, 1, 1);
            net.state(3);
            Due.is("15: the end of 3", net.end(rule, 0), 1);
            basin("3 alone has a tail", net, rule, 0, 2, 1, 1);
        }
    }

    /** "How many BEGINNINGS none comes to": none of them; all but one; itself is one that comes. */
    private static void promise16NoneAndMost() {
        GameNet net = Nets.allWantOne();
        for (int rule : new int[] {REPLY, BAR, IN_TURN}) {
            Due.is("16: all but one", net.lone(rule), 1023);
        }
        Due.is("16: all but two", net.lone(COPY), 1022);
        net.hold(4, true);
        for (int rule : new int[] {REPLY, BAR, IN_TURN}) {
            Due.is("16: all but one of half of them", net.lone(rule), 511);
        }
        Nets.holdAll(net);
        for (int rule = 0; rule <= 3; rule++) {
            Due.is("16: all held, none", net.lone(rule), 0);
        }
        for (int n = 2; n <= 10; n++) {
            net.players(n);
            for (int rule = 0; rule <= 3; rule++) {
                Due.is("16: no lines, none", net.lone(rule), 0);
            }
        }
        net = Nets.full(2, 1);
        Due.is("16: a ring and two rests, none", net.lone(REPLY), 0);
    }

    /** "how many BEGINNINGS are such that it comes behind (i = -1), the i-th; NONE". */
    private static void promise17NoneAndAll() {
        GameNet net = Nets.allWantOne();
        for (int rule : new int[] {REPLY, BAR, IN_TURN}) {
            net.state(0);
            Due.is("17: none", net.before(rule, -1), 0);
            Due.is("17: none, i 0", net.before(rule, 0), -6);
            net.state(1023);
            Due.is("17: all", net.before(rule, -1), 1024);
            Due.is("17: all, the first", net.before(rule, 0), 0);
            Due.is("17: all, the second", net.before(rule, 1), 1);
            Due.is("17: all, the last", net.before(rule, 1023), 1023);
            Due.is("17: all, the i behind it", net.before(rule, 1024), -6);
            Due.is("17: all, the i ahead of -1", net.before(rule, -2), -6);
        }
        net.hold(0, true);
        Due.is("17: 0 held at 1, half of them", net.before(REPLY, -1), 512);
        Due.is("17: 0 held at 1, the first", net.before(REPLY, 0), 1);
        Due.is("17: 0 held at 1, the last", net.before(REPLY, 511), 1023);
        Due.is("17: 0 held at 1, the i behind it", net.before(REPLY, 512), -6);
        Due.is("17: the state stays", net.told(3), 1023);
    }

    private static void promise17FirstAndLast() {
        GameNet net = new GameNet();
        net.players(10);
        for (int held = 0; held <= 1; held++) {
            for (int bits : SOME_STATES) {
                net.state(bits);
                for (int rule = 0; rule <= 3; rule++) {
                    Due.is("17: itself alone, how many", net.before(rule, -1), 1);
                    Due.is("17: itself alone, the first", net.before(rule, 0), bits);
                    Due.is("17: itself alone, the i behind it", net.before(rule, 1), -6);
                }
            }
            Nets.holdAll(net);
        }
        net = Nets.allWantOne();
        Nets.holdAll(net);
        for (int bits : SOME_STATES) {
            net.state(bits);
            Due.is("17: all would move, but are held", net.before(BAR, -1), 1);
            Due.is("17: all would move, but are held", net.before(BAR, 0), bits);
        }
        // State 1 of the ring of seven comes behind 15, of the ring, and behind 35, ahead of it.
        net = Nets.ringOfSeven();
        net.state(1);
        Due.is("17: two, how many", net.before(COPY, -1), 2);
        Due.is("17: two, the first", net.before(COPY, 0), 15);
        Due.is("17: two, the last", net.before(COPY, 1), 35);
        Due.is("17: two, the i behind it", net.before(COPY, 2), -6);
        Due.is("17: two, the least i", net.before(COPY, Integer.MIN_VALUE), -6);
        Due.is("17: two, the greatest i", net.before(COPY, Integer.MAX_VALUE), -6);
    }
}
