/**
 * Neighbours' games: players on a net who play one of two ways and are paid by those beside them.
 * This class looks at the arguments and keeps THE STATE; the classes inside it do the reckoning.
 *
 * <p>All rows are made in the constructors and used again, as what calls make is never given back.
 */
public final class GameNet {
    public static final int NONE = -6, UNKNOWN = -1, OUTSIDE = -2, STATE = -3;
    public static final int LOST = -100000;

    private static final int LEAST_PLAYERS = 2;
    private static final int MOST_PLAYERS = 10;
    private static final int PLAYERS_AT_FIRST = 4;
    private static final int MOST_STATES = 1024;
    private static final int MOST_WEIGHT = 9;
    private static final int MOST_PAY = 9;
    private static final int BAR_AT_FIRST = 50;
    private static final int WHOLE = 100;
    private static final int MOST_STEPS = 100;
    private static final int MOST_STEPS_TO_TIP = 1024;

    /** The rules by number; the one that is left, 2, is BAR. */
    private static final int REPLY = 0;
    private static final int COPY = 1;
    private static final int IN_TURN = 3;

    /** Those ahead of IN TURN, by which all move at once. */
    private static final int RULES_AT_ONCE = 3;

    private static final int HOW_MANY = -1;
    private static final int FIRST_TOLD_PAY = 10;

    /** Marks in rows that otherwise hold STATES and counts, which are never below 0. */
    private static final int NOT_YET = -1;
    private static final int ON_THE_WAY = -2;

    private final Net net;
    private final Moves moves;
    private final Survey survey;
    private final int[] marks;
    private int held;
    private int now;

    public GameNet() {
        net = new Net();
        moves = new Moves(net);
        survey = new Survey(net, moves);
        marks = new int[MOST_STATES];
        held = 0;
        now = 0;
    }

    // ---- 1 the net, the game

    public int players(int n) {
        if (n < LEAST_PLAYERS || n > MOST_PLAYERS) {
            return OUTSIDE;
        }
        int was = net.players;
        net.beginAnew(n);
        held = 0;
        now = 0;
        forgetMoves();
        return was;
    }

    public int line(int a, int b, int w) {
        if (!net.mayJoin(a, b)) {
            return UNKNOWN;
        }
        if (w < 0 || w > MOST_WEIGHT) {
            return OUTSIDE;
        }
        int was = net.weightOf(a, b);
        net.setWeight(a, b, w);
        forgetMoves();
        return was;
    }

    public int weight(int a, int b) {
        return net.mayJoin(a, b) ? net.weightOf(a, b) : UNKNOWN;
    }

    public int pay(int x, int y, int v) {
        if (!isWay(x) || !isWay(y) || v < -MOST_PAY || v > MOST_PAY) {
            return LOST + OUTSIDE;
        }
        int was = net.payOf(x, y);
        net.setPay(x, y, v);
        forgetMoves();
        return was;
    }

    public int bar(int v) {
        if (v < 0 || v > WHOLE) {
            return OUTSIDE;
        }
        int was = net.bar;
        net.bar = v;
        forgetMoves();
        return was;
    }

    public int hold(int player, boolean is) {
        if (!net.has(player)) {
            return UNKNOWN;
        }
        int was = bitOf(player, held);
        held = is ? held | 1 << player : held & ~(1 << player);
        return was;
    }

    public int state(int bits) {
        if (!net.isState(bits)) {
            return OUTSIDE;
        }
        int was = now;
        now = bits;
        return was;
    }

    public int wage(int player, int what) {
        if (!net.has(player)) {
            return LOST + UNKNOWN;
        }
        if (what != 0 && what != 1) {
            return LOST + OUTSIDE;
        }
        return net.wageOf(player, bitOf(player, now) ^ what, now);
    }

    public int sum() {
        int total = 0;
        for (int player = 0; player < net.players; player++) {
            total += net.wageOf(player, bitOf(player, now), now);
        }
        return total;
    }

    // ---- 2 steps

    public int step(int rule, int n) {
        if (!isRule(rule) || n < 1 || n > MOST_STEPS) {
            return OUTSIDE;
        }
        for (int done = 0; done < n; done++) {
            now = moves.next(rule, held, now);
        }
        return now;
    }

    public int after(int rule, int bits) {
        return isRule(rule) && net.isState(bits) ? moves.next(rule, held, bits) : OUTSIDE;
    }

    public int goes(int rule, int what) {
        if (!isRule(rule) || what < 0 || what > 3) {
            return OUTSIDE;
        }
        survey.goThrough(rule, held, now);
        switch (what) {
            case 0:
                return survey.tails[now];
            case 1:
                return survey.ringLength(survey.ends[now]);
            case 2:
                return survey.ends[now];
            default:
                return survey.firstOfRing(now);
        }
    }

    public int end(int rule, int i) {
        if (!isRule(rule)) {
            return OUTSIDE;
        }
        survey.goThrough(rule, held, now);
        return i == HOW_MANY ? survey.howManyEnds() : survey.endAt(i);
    }

    public int basin(int rule, int i, int what) {
        if (!isRule(rule) || what < 0 || what > 2) {
            return OUTSIDE;
        }
        survey.goThrough(rule, held, now);
        int end = survey.endAt(i);
        if (end == NONE) {
            return NONE;
        }
        switch (what) {
            case 0:
                return survey.howManyComeTo(end);
            case 1:
                return survey.ringLength(end);
            default:
                return survey.greatestTail(end);
        }
    }

    public int lone(int rule) {
        if (!isRule(rule)) {
            return OUTSIDE;
        }
        clearMarks();
        for (int from = 0; from < net.states(); from++) {
            if (isBeginning(from)) {
                marks[moves.next(rule, held, from)] = from;
            }
        }
        int many = 0;
        for (int bits = 0; bits < net.states(); bits++) {
            if (isBeginning(bits) && marks[bits] == NOT_YET) {
                many++;
            }
        }
        return many;
    }

    public int before(int rule, int i) {
        if (!isRule(rule)) {
            return OUTSIDE;
        }
        int many = 0;
        for (int from = 0; from < net.states(); from++) {
            if (isBeginning(from) && moves.next(rule, held, from) == now) {
                if (many == i) {
                    return from;
                }
                many++;
            }
        }
        return i == HOW_MANY ? many : NONE;
    }

    // ---- 3 rises, tipping

    public int rise() {
        return net.riseOf(now);
    }

    public int highest() {
        int best = now;
        int bestRise = net.riseOf(now);
        for (int bits = 0; bits < net.states(); bits++) {
            if (isBeginning(bits)) {
                int its = net.riseOf(bits);
                if (its > bestRise || its == bestRise && bits < best) {
                    best = bits;
                    bestRise = its;
                }
            }
        }
        return best;
    }

    public int rests() {
        return isAtRest(now) ? 1 : 0;
    }

    public int restMany() {
        int many = 0;
        for (int bits = 0; bits < net.states(); bits++) {
            if (isBeginning(bits) && isAtRest(bits)) {
                many++;
            }
        }
        return many;
    }

    public int tip(int rule) {
        if (!isRule(rule)) {
            return OUTSIDE;
        }
        clearMarks();
        for (int size = 0; size <= net.players; size++) {
            for (int set = 0; set < net.states(); set++) {
                if (Integer.bitCount(set) == size && tipsAll(rule, set)) {
                    return set;
                }
            }
        }
        return NONE;
    }

    public int share(int what) {
        if (what != 0 && what != 1) {
            return OUTSIDE;
        }
        int upper = net.gainOfZero();
        int lower = upper + net.gainOfOne();
        if (lower <= 0 || upper < 0 || upper > lower) {
            return STATE;
        }
        int common = commonDivisor(lower, upper);
        // It is never below 1; asked all the same, as no divisor goes unasked.
        return common < 1 ? STATE : (what == 0 ? upper : lower) / common;
    }

    public int hangs(int bits, int hundredths) {
        if (!net.isState(bits) || hundredths < 1 || hundredths > WHOLE) {
            return OUTSIDE;
        }
        for (int player = 0; player < net.players; player++) {
            if (bitOf(player, bits) == 1 && !net.reaches(player, bits, hundredths)) {
                return 0;
            }
        }
        return 1;
    }

    public int told(int what) {
        switch (what) {
            case 0:
                return net.players;
            case 1:
                return net.howManyLines();
            case 2:
                return held;
            case 3:
                return now;
            case 4:
                return net.bar;
            default:
                return toldPay(what);
        }
    }

    private int toldPay(int what) {
        if (what < FIRST_TOLD_PAY || what > FIRST_TOLD_PAY + 3) {
            return LOST + OUTSIDE;
        }
        int ways = what - FIRST_TOLD_PAY;
        return net.payOf(ways >> 1, ways & 1);
    }

    private void forgetMoves() {
        moves.forget();
        survey.forget();
    }

    private void clearMarks() {
        for (int bits = 0; bits < net.states(); bits++) {
            marks[bits] = NOT_YET;
        }
    }

    private boolean isBeginning(int bits) {
        return ((bits ^ now) & held) == 0;
    }

    /** REPLY changes just those who would gain by it, so a STATE that it leaves alone rests. */
    private boolean isAtRest(int bits) {
        return moves.next(REPLY, held, bits) == bits;
    }

    /** Each set leaves its own number as its marks, so that all sets need but one clearing. */
    private boolean tipsAll(int rule, int set) {
        int all = net.states() - 1;
        int at = set;
        for (int done = 0; done <= MOST_STEPS_TO_TIP && marks[at] != set; done++) {
            if (at == all) {
                return true;
            }
            marks[at] = set;
            at = moves.next(rule, set, at);
        }
        return false;
    }

    private static boolean isRule(int rule) {
        return rule >= REPLY && rule <= IN_TURN;
    }

    private static boolean isWay(int way) {
        return way == 0 || way == 1;
    }

    private static int bitOf(int player, int bits) {
        return bits >> player & 1;
    }

    /** Euclid's way; the numbers are at most 36, and the bound is far above what they need. */
    private static int commonDivisor(int a, int b) {
        int greater = a;
        int less = b;
        for (int turn = 0; turn < WHOLE && less != 0; turn++) {
            int rest = greater % less;
            greater = less;
            less = rest;
        }
        return greater;
    }

    /** The players, the lines and the pays: all that wages come from. */
    private static final class Net {
        private final int[] weights;
        private final int[] allWeights;
        private final int[] pays;
        private int players;
        private int bar;

        private Net() {
            weights = new int[MOST_PLAYERS * MOST_PLAYERS];
            allWeights = new int[MOST_PLAYERS];
            pays = new int[] {1, 0, 0, 1};
            players = PLAYERS_AT_FIRST;
            bar = BAR_AT_FIRST;
        }

        private void beginAnew(int n) {
            players = n;
            for (int at = 0; at < weights.length; at++) {
                weights[at] = 0;
            }
            for (int player = 0; player < allWeights.length; player++) {
                allWeights[player] = 0;
            }
        }

        private int states() {
            return 1 << players;
        }

        private boolean has(int player) {
            return player >= 0 && player < players;
        }

        private boolean mayJoin(int a, int b) {
            return has(a) && has(b) && a != b;
        }

        private boolean isState(int bits) {
            return bits >= 0 && bits < states();
        }

        private int weightOf(int a, int b) {
            return weights[a * MOST_PLAYERS + b];
        }

        private void setWeight(int a, int b, int w) {
            int more = w - weightOf(a, b);
            allWeights[a] += more;
            allWeights[b] += more;
            weights[a * MOST_PLAYERS + b] = w;
            weights[b * MOST_PLAYERS + a] = w;
        }

        private int payOf(int x, int y) {
            return pays[2 * x + y];
        }

        private void setPay(int x, int y, int v) {
            pays[2 * x + y] = v;
        }

        private int howManyLines() {
            int many = 0;
            for (int a = 0; a < players; a++) {
                for (int b = a + 1; b < players; b++) {
                    if (weightOf(a, b) != 0) {
                        many++;
                    }
                }
            }
            return many;
        }

        /** A player has no line with itself, so it may be in the set or not. */
        private int weightsInto(int player, int set) {
            int total = 0;
            for (int other = 0; other < players; other++) {
                total += weights[player * MOST_PLAYERS + other] * (set >> other & 1);
            }
            return total;
        }

        private int wageOf(int player, int way, int bits) {
            int toOnes = weightsInto(player, bits);
            int toZeros = allWeights[player] - toOnes;
            return toOnes * payOf(way, 1) + toZeros * payOf(way, 0);
        }

        /** True of a player without lines too: 0 is as much as any part of 0. */
        private boolean reaches(int player, int set, int hundredths) {
            return WHOLE * weightsInto(player, set) >= hundredths * allWeights[player];
        }

        /** What playing 0 is paid above playing 1, beside one who plays 0. */
        private int gainOfZero() {
            return payOf(0, 0) - payOf(1, 0);
        }

        /** What playing 1 is paid above playing 0, beside one who plays 1. */
        private int gainOfOne() {
            return payOf(1, 1) - payOf(0, 1);
        }

        private int riseOf(int bits) {
            int total = 0;
            for (int a = 0; a < players; a++) {
                int way = bitOf(a, bits);
                int gain = way == 1 ? gainOfOne() : gainOfZero();
                for (int b = a + 1; b < players; b++) {
                    if (bitOf(b, bits) == way) {
                        total += weightOf(a, b) * gain;
                    }
                }
            }
            return total;
        }
    }

    /**
     * What comes behind a STATE by a RULE. What all would take at once, were none HELD, is kept
     * until the net or the game changes: who is HELD has no part in it, so tipping uses it too.
     */
    private static final class Moves {
        private final Net net;
        private final int[] wishes;
        private final boolean[] inUse;
        private final int[] wages;

        private Moves(Net net) {
            this.net = net;
            wishes = new int[RULES_AT_ONCE * MOST_STATES];
            inUse = new boolean[RULES_AT_ONCE];
            wages = new int[MOST_PLAYERS];
        }

        private void forget() {
            for (int rule = 0; rule < RULES_AT_ONCE; rule++) {
                inUse[rule] = false;
            }
        }

        private int next(int rule, int held, int bits) {
            if (rule != IN_TURN) {
                return wishOf(rule, bits) & ~held | bits & held;
            }
            int at = bits;
            for (int player = 0; player < net.players; player++) {
                int its = 1 << player & ~held;
                at = wishOf(REPLY, at) & its | at & ~its;
            }
            return at;
        }

        private int wishOf(int rule, int bits) {
            if (!inUse[rule]) {
                takeIntoUse(rule);
            }
            int at = rule * MOST_STATES + bits;
            if (wishes[at] == NOT_YET) {
                switch (rule) {
                    case REPLY:
                        wishes[at] = repliesTo(bits);
                        break;
                    case COPY:
                        wishes[at] = copiesIn(bits);
                        break;
                    default:
                        wishes[at] = overBarIn(bits);
                        break;
                }
            }
            return wishes[at];
        }

        private void takeIntoUse(int rule) {
            for (int bits = 0; bits < net.states(); bits++) {
                wishes[rule * MOST_STATES + bits] = NOT_YET;
            }
            inUse[rule] = true;
        }

        private int repliesTo(int bits) {
            int wish = 0;
            for (int player = 0; player < net.players; player++) {
                int ofZero = net.wageOf(player, 0, bits);
                int ofOne = net.wageOf(player, 1, bits);
                if (ofOne > ofZero || ofOne == ofZero && bitOf(player, bits) == 1) {
                    wish |= 1 << player;
                }
            }
            return wish;
        }

        private int copiesIn(int bits) {
            for (int player = 0; player < net.players; player++) {
                wages[player] = net.wageOf(player, bitOf(player, bits), bits);
            }
            int wish = 0;
            for (int player = 0; player < net.players; player++) {
                wish |= bitOf(bestBeside(player), bits) << player;
            }
            return wish;
        }

        /** Only a greater wage takes the place: so itself comes first, then the least number. */
        private int bestBeside(int player) {
            int best = player;
            for (int other = 0; other < net.players; other++) {
                if (net.weightOf(player, other) != 0 && wages[other] > wages[best]) {
                    best = other;
                }
            }
            return best;
        }

        private int overBarIn(int bits) {
            int wish = 0;
            for (int player = 0; player < net.players; player++) {
                boolean one = net.allWeights[player] == 0
                        ? bitOf(player, bits) == 1
                        : net.reaches(player, bits, net.bar);
                if (one) {
                    wish |= 1 << player;
                }
            }
            return wish;
        }
    }

    /**
     * All BEGINNINGS gone through by one RULE: what comes behind each, the least STATE of the RING
     * that it comes to, and its TAIL. A STATE that is no BEGINNING comes to no END: NOT_YET.
     */
    private static final class Survey {
        private final Net net;
        private final Moves moves;
        private final int[] behind;
        private final int[] ends;
        private final int[] tails;
        private boolean stands;
        private int rule;
        private int held;
        private int heldWays;

        private Survey(Net net, Moves moves) {
            this.net = net;
            this.moves = moves;
            behind = new int[MOST_STATES];
            ends = new int[MOST_STATES];
            tails = new int[MOST_STATES];
            stands = false;
            rule = REPLY;
            held = 0;
            heldWays = 0;
        }

        private void forget() {
            stands = false;
        }

        /** What was gone through last stands while RULE, net and BEGINNINGS are the same. */
        private void goThrough(int byRule, int whoIsHeld, int now) {
            if (stands && rule == byRule && held == whoIsHeld && heldWays == (now & whoIsHeld)) {
                return;
            }
            rule = byRule;
            held = whoIsHeld;
            heldWays = now & whoIsHeld;
            for (int bits = 0; bits < net.states(); bits++) {
                behind[bits] = isBeginning(bits) ? moves.next(rule, held, bits) : bits;
                ends[bits] = NOT_YET;
                tails[bits] = 0;
            }
            for (int bits = 0; bits < net.states(); bits++) {
                if (isBeginning(bits)) {
                    follow(bits);
                }
            }
            stands = true;
        }

        private boolean isBeginning(int bits) {
            return (bits & held) == heldWays;
        }

        private void follow(int from) {
            int at = from;
            for (int done = 0; done < MOST_STATES && ends[at] == NOT_YET; done++) {
                ends[at] = ON_THE_WAY;
                at = behind[at];
            }
            if (ends[at] == ON_THE_WAY) {
                closeRing(at);
            }
            closeTail(from);
        }

        private void closeRing(int first) {
            int least = first;
            int at = behind[first];
            for (int done = 0; done < MOST_STATES && at != first; done++) {
                least = Math.min(least, at);
                at = behind[at];
            }
            for (int done = 0; done < MOST_STATES && ends[at] == ON_THE_WAY; done++) {
                ends[at] = least;
                at = behind[at];
            }
        }

        private void closeTail(int from) {
            int steps = 0;
            int at = from;
            for (; steps < MOST_STATES && ends[at] == ON_THE_WAY; steps++) {
                at = behind[at];
            }
            int end = ends[at];
            int tail = tails[at] + steps;
            at = from;
            for (int done = 0; done < steps; done++) {
                ends[at] = end;
                tails[at] = tail - done;
                at = behind[at];
            }
        }

        private int howManyEnds() {
            int many = 0;
            for (int bits = 0; bits < net.states(); bits++) {
                if (ends[bits] == bits) {
                    many++;
                }
            }
            return many;
        }

        private int endAt(int i) {
            int many = 0;
            for (int bits = 0; bits < net.states(); bits++) {
                if (ends[bits] == bits) {
                    if (many == i) {
                        return bits;
                    }
                    many++;
                }
            }
            return NONE;
        }

        private int howManyComeTo(int end) {
            int many = 0;
            for (int bits = 0; bits < net.states(); bits++) {
                if (ends[bits] == end) {
                    many++;
                }
            }
            return many;
        }

        private int ringLength(int end) {
            int many = 0;
            for (int bits = 0; bits < net.states(); bits++) {
                if (ends[bits] == end && tails[bits] == 0) {
                    many++;
                }
            }
            return many;
        }

        private int greatestTail(int end) {
            int greatest = 0;
            for (int bits = 0; bits < net.states(); bits++) {
                if (ends[bits] == end) {
                    greatest = Math.max(greatest, tails[bits]);
                }
            }
            return greatest;
        }

        private int firstOfRing(int from) {
            int steps = tails[from];
            int at = from;
            for (int done = 0; done < steps; done++) {
                at = behind[at];
            }
            return at;
        }
    }
}
