import java.util.Arrays;

/** A dart board, a cloud of misses, plans for ending a number, and games thrown by draws. */
public final class DartRoom {
    public static final int NONE = -1, BAD = -2, NO = -3;

    private static final int SECTORS = 20;
    private static final int BULL_RING = 0;
    private static final int OUTER_BULL_RING = 1;
    private static final int DOUBLE_RING = 5;
    private static final int BEYOND_RING = 6;
    private static final int AIMS = DOUBLE_RING * SECTORS + SECTORS;
    private static final int BEDS = BEYOND_RING * SECTORS + SECTORS;

    private static final int REACH = 2;
    private static final int SIDE = 2 * REACH + 1;
    private static final int STEPS = SIDE * SIDE;
    private static final int MOST_WEIGHT = 200;

    private static final int MOST_LEFT = 301;
    private static final int MOST_DARTS = 3;
    private static final int MOST_COUNT = 60;
    private static final int HOPELESS_UP_TO = 180;
    private static final int MOST_WINS_LEFT = 80;
    private static final int MOST_THROWN = 512;

    private static final int ENDED = 0;
    private static final int BUST = -1;
    private static final int BUST_ANSWER = -1000;
    private static final int FACTS = 7;

    private static final int[] FIRST_VALUES = {
        20, 1, 18, 4, 13, 6, 10, 15, 2, 17, 3, 19, 7, 16, 8, 11, 14, 9, 12, 5
    };

    private final Board board;
    private final Cloud mist;
    private final Flights flights;
    private final WaysTable waysTable;
    private final ThrowsTable throwsTable;
    private final WinsTable winsTable;
    private boolean stale;
    private Stand stand;

    public DartRoom() {
        board = new Board();
        mist = new Cloud();
        flights = new Flights(board, mist);
        waysTable = new WaysTable(flights);
        throwsTable = new ThrowsTable(flights);
        winsTable = new WinsTable(flights, throwsTable);
        stale = true;
        stand = null;
    }

    public int cloud(int dr, int ds, int v) {
        if (!isStep(dr) || !isStep(ds) || v < 0 || v > MOST_WEIGHT) {
            return BAD;
        }
        int step = SIDE * (dr + REACH) + ds + REACH;
        int was = mist.weights[step];
        if (mist.total - was + v < 1) {
            return NO;
        }
        mist.put(step, v);
        if (was != v) {
            stale = true;
        }
        return was;
    }

    public int rules(int r) {
        if (r < 0 || r > 1) {
            return BAD;
        }
        int was = ruleNumber();
        flights.doubleOut = r == 1;
        if (was != r) {
            stale = true;
        }
        return was;
    }

    public int swap(int s, int t) {
        if (!isSector(s) || !isSector(t)) {
            return BAD;
        }
        board.exchange(s, t);
        if (s != t) {
            stale = true;
        }
        return 1;
    }

    public int value(int s) {
        return isSector(s) ? board.values[s] : BAD;
    }

    public int bed(int r, int s) {
        return isBed(r, s) ? board.countOf(SECTORS * r + s) : BAD;
    }

    public int lands(int aim, int r, int s) {
        if (!isAim(aim) || !isBed(r, s)) {
            return BAD;
        }
        int wanted = SECTORS * r + s;
        int sum = 0;
        for (int step = 0; step < STEPS; step++) {
            if (isSameBed(bedFrom(aim, step), wanted)) {
                sum += mist.weights[step];
            }
        }
        return sum;
    }

    public int mean(int aim) {
        return isAim(aim) ? weighedCount(aim) : BAD;
    }

    public int best() {
        int first = 0;
        int most = -1;
        for (int aim = 0; aim < AIMS; aim++) {
            int now = weighedCount(aim);
            if (now > most) {
                most = now;
                first = aim;
            }
        }
        return first;
    }

    public long ways(int n, int d) {
        if (!isLeft(n) || !isDarts(d)) {
            return BAD;
        }
        makeReady();
        return waysTable.mostRows(n, d);
    }

    public int wayAim(int n, int d) {
        if (!isLeft(n) || !isDarts(d)) {
            return BAD;
        }
        makeReady();
        return waysTable.firstAim(n, d);
    }

    public int hopeless(int d) {
        if (!isDarts(d)) {
            return BAD;
        }
        makeReady();
        int sum = 0;
        for (int n = 1; n <= HOPELESS_UP_TO; n++) {
            if (waysTable.mostRows(n, d) == 0) {
                sum++;
            }
        }
        return sum;
    }

    public long throwsOf(int n) {
        if (!isLeft(n)) {
            return BAD;
        }
        makeReady();
        throwsTable.settleUpTo(n);
        return throwsTable.hasNone(n) ? NONE : bitsOf(throwsTable.least[n]);
    }

    public int aimOf(int n) {
        return isLeft(n) ? throwsAim(n) : BAD;
    }

    public long wins(int a, int b) {
        if (!isWinsLeft(a) || !isWinsLeft(b)) {
            return BAD;
        }
        makeReady();
        throwsTable.settleUpTo(Math.max(a, b));
        if (throwsTable.hasNone(a) || throwsTable.hasNone(b)) {
            return NONE;
        }
        return bitsOf(winsTable.chance(a, b));
    }

    public int luck() {
        return board.roughness();
    }

    public int luckier() {
        return board.roughestExchange();
    }

    public int game(int n, int darts, int seed) {
        if (n < 2 || n > MOST_LEFT || !isDarts(darts) || seed < 0) {
            return BAD;
        }
        stand = new Stand(n, darts, seed);
        return 1;
    }

    public int dart(int aim) {
        if (aim != NONE && !isAim(aim)) {
            return BAD;
        }
        if (stand == null || stand.isOver() || stand.thrown >= MOST_THROWN) {
            return NO;
        }
        int at = aim == NONE ? throwsAim(stand.leftOf(stand.who)) : aim;
        if (!isAim(at)) {
            return NO;
        }
        return throwAt(at, stand);
    }

    public int about(int what) {
        if (what < 0 || what >= FACTS) {
            return BAD;
        }
        return stand == null ? NO : stand.fact(what);
    }

    public int undo() {
        if (stand == null || stand.before == null) {
            return NO;
        }
        stand = stand.before;
        return stand.thrown;
    }

    public long digest() {
        long h = 151;
        for (int s = 0; s < SECTORS; s++) {
            h = 31 * h + board.values[s];
        }
        for (int step = 0; step < STEPS; step++) {
            h = 31 * h + mist.weights[step];
        }
        h = 31 * h + ruleNumber();
        h = 31 * h + mist.total;
        h = 31 * h + board.roughness();
        if (stand != null) {
            for (int what = 0; what < FACTS; what++) {
                h = 31 * h + stand.fact(what);
            }
        }
        return h;
    }

    /** Plans are made anew only when they are asked for, so that many changes in a row cost little. */
    private void makeReady() {
        if (stale) {
            flights.lay();
            waysTable.forget();
            throwsTable.forget();
            winsTable.forget();
            stale = false;
        }
    }

    private int throwsAim(int n) {
        if (!isLeft(n)) {
            return NONE;
        }
        makeReady();
        throwsTable.settleUpTo(n);
        return throwsTable.aims[n];
    }

    private int weighedCount(int aim) {
        int sum = 0;
        for (int step = 0; step < STEPS; step++) {
            if (mist.weights[step] > 0) {
                sum += mist.weights[step] * board.countOf(bedFrom(aim, step));
            }
        }
        return sum;
    }

    private int throwAt(int aim, Stand now) {
        Stand next = new Stand(now);
        next.draw();
        int landed = bedFrom(aim, mist.stepAt(next.drawn / 65536));
        int count = board.countOf(landed);
        int rest = flights.after(now.leftOf(now.who), board.landingOf(landed));
        next.take(landed, rest);
        stand = next;
        return rest == BUST ? BUST_ANSWER - count : count;
    }

    private int ruleNumber() {
        return flights.doubleOut ? 1 : 0;
    }

    private static boolean isStep(int d) {
        return d >= -REACH && d <= REACH;
    }

    private static boolean isSector(int s) {
        return s >= 0 && s < SECTORS;
    }

    private static boolean isBed(int r, int s) {
        return r >= BULL_RING && r <= BEYOND_RING && isSector(s);
    }

    private static boolean isAim(int aim) {
        return aim >= 0 && aim < AIMS;
    }

    private static boolean isLeft(int n) {
        return n >= 1 && n <= MOST_LEFT;
    }

    private static boolean isWinsLeft(int n) {
        return n >= 1 && n <= MOST_WINS_LEFT;
    }

    private static boolean isDarts(int d) {
        return d >= 1 && d <= MOST_DARTS;
    }

    private static boolean isSameBed(int one, int other) {
        int ring = one / SECTORS;
        if (ring != other / SECTORS) {
            return false;
        }
        boolean whole = ring == BULL_RING || ring == OUTER_BULL_RING || ring == BEYOND_RING;
        return whole || one == other;
    }

    /** A bed is numbered as an aim is: 20 times its ring, and its sector. */
    private static int bedFrom(int aim, int step) {
        int ring = aim / SECTORS + step / SIDE - REACH;
        int sector = aim % SECTORS + step % SIDE - REACH;
        if (ring < 0) {
            ring = -ring;
            sector += SECTORS / 2;
        }
        return SECTORS * Math.min(ring, BEYOND_RING) + Math.floorMod(sector, SECTORS);
    }

    /** The language leaves no call for this: the exponent is counted out, every step of it exact. */
    private static long bitsOf(double x) {
        if (x == 0.0) {
            return 0L;
        }
        double size = x < 0.0 ? -x : x;
        int exponent = 1023;
        while (size >= 2.0 && exponent < 2046) {
            size = size * 0.5;
            exponent++;
        }
        while (size < 1.0 && exponent > 1) {
            size = size * 2.0;
            exponent--;
        }
        // The leading 1 of the scaled size stands where the exponent's lowest bit does.
        long bits = ((long) (exponent - 1) << 52) + (long) (size * 4503599627370496.0);
        return x < 0.0 ? bits | (1L << 63) : bits;
    }

    /** The values round the board, and what its beds count. */
    private static final class Board {
        final int[] values = new int[SECTORS];

        Board() {
            System.arraycopy(FIRST_VALUES, 0, values, 0, SECTORS);
        }

        int countOf(int bed) {
            if (bed < 0 || bed >= BEDS) {
                return 0;
            }
            int v = values[bed % SECTORS];
            switch (bed / SECTORS) {
                case BULL_RING:
                    return 50;
                case OUTER_BULL_RING:
                    return 25;
                case 3:
                    return 3 * v;
                case DOUBLE_RING:
                    return 2 * v;
                case BEYOND_RING:
                    return 0;
                default:
                    return v;
            }
        }

        /** What a bed counts and whether its ring is a double one, in one number for the tables. */
        int landingOf(int bed) {
            int ring = bed / SECTORS;
            int mark = ring == BULL_RING || ring == DOUBLE_RING ? 1 : 0;
            return 2 * countOf(bed) + mark;
        }

        void exchange(int s, int t) {
            int kept = values[s];
            values[s] = values[t];
            values[t] = kept;
        }

        int roughness() {
            int sum = 0;
            for (int s = 0; s < SECTORS; s++) {
                sum += Math.abs(values[s] - values[(s + 1) % SECTORS]);
            }
            return sum;
        }

        int roughestExchange() {
            int most = roughness();
            int found = NONE;
            for (int s = 0; s < SECTORS; s++) {
                for (int t = s + 1; t < SECTORS; t++) {
                    exchange(s, t);
                    int now = roughness();
                    exchange(s, t);
                    if (now > most) {
                        most = now;
                        found = 32 * s + t;
                    }
                }
            }
            return found;
        }
    }

    /** The weights of the steps, in the order dr, then ds. */
    private static final class Cloud {
        final int[] weights = new int[STEPS];
        int total;

        Cloud() {
            weights[STEPS / 2] = 1;
            total = 1;
        }

        void put(int step, int v) {
            total += v - weights[step];
            weights[step] = v;
        }

        /** The step in which a drawn number falls, counted round and round through the weights. */
        int stepAt(int number) {
            int rest = total < 1 ? 0 : number % total;
            for (int step = 0; step < STEPS; step++) {
                if (rest < weights[step]) {
                    return step;
                }
                rest -= weights[step];
            }
            return STEPS / 2;
        }
    }

    /** Where the darts of every aim land, laid out for the steps that have a weight. */
    private static final class Flights {
        private final Board board;
        private final Cloud mist;
        final int[] weights = new int[STEPS];
        final int[] landings = new int[AIMS * STEPS];
        int count;
        int total;
        boolean doubleOut;

        Flights(Board board, Cloud mist) {
            this.board = board;
            this.mist = mist;
            count = 0;
            total = 1;
            doubleOut = true;
        }

        void lay() {
            count = 0;
            total = mist.total;
            for (int step = 0; step < STEPS; step++) {
                if (mist.weights[step] > 0) {
                    layStep(step, count);
                    count++;
                }
            }
        }

        private void layStep(int step, int place) {
            weights[place] = mist.weights[step];
            for (int aim = 0; aim < AIMS; aim++) {
                landings[aim * STEPS + place] = board.landingOf(bedFrom(aim, step));
            }
        }

        /** What is left behind a landing: ENDED, BUST, or the number. */
        int after(int left, int landing) {
            int rest = left - landing / 2;
            if (rest > 1) {
                return rest;
            }
            if (rest < 0) {
                return BUST;
            }
            if (!doubleOut) {
                return rest;
            }
            return rest == 0 && landing % 2 == 1 ? ENDED : BUST;
        }
    }

    /** Ways to end a number within so many darts, with the first dart's aim. */
    private static final class WaysTable {
        private static final int ROW = MOST_LEFT + 1;
        private static final long UNKNOWN = -1;

        private final Flights flights;
        private final long[] most = new long[MOST_DARTS * ROW];
        private final int[] aims = new int[MOST_DARTS * ROW];
        private boolean used;

        WaysTable(Flights flights) {
            this.flights = flights;
            used = true;
        }

        void forget() {
            if (used) {
                Arrays.fill(most, UNKNOWN);
                used = false;
            }
        }

        long mostRows(int n, int d) {
            settle(n, d);
            return most[cell(n, d)];
        }

        int firstAim(int n, int d) {
            settle(n, d);
            return aims[cell(n, d)];
        }

        private static int cell(int n, int d) {
            return (d - 1) * ROW + n;
        }

        /** Fewer darts first, for all numbers that the darts before them could leave. */
        private void settle(int n, int d) {
            if (most[cell(n, d)] != UNKNOWN) {
                return;
            }
            used = true;
            long power = 1;
            for (int darts = 1; darts <= d; darts++) {
                int low = Math.max(1, n - MOST_COUNT * (d - darts));
                for (int left = low; left <= n; left++) {
                    if (most[cell(left, darts)] == UNKNOWN) {
                        settleOne(left, darts, power);
                    }
                }
                power *= flights.total;
            }
        }

        private void settleOne(int n, int d, long power) {
            long greatest = 0;
            int first = NONE;
            // No dart counts more than MOST_COUNT, so that nothing can end what lies beyond.
            int end = n > MOST_COUNT * d ? 0 : AIMS;
            for (int aim = 0; aim < end; aim++) {
                long sum = rowsOf(aim, n, d, power);
                if (sum > greatest) {
                    greatest = sum;
                    first = aim;
                }
            }
            most[cell(n, d)] = greatest;
            aims[cell(n, d)] = first;
        }

        private long rowsOf(int aim, int n, int d, long power) {
            int[] landings = flights.landings;
            int[] weights = flights.weights;
            int base = aim * STEPS;
            long sum = 0;
            for (int i = 0; i < flights.count; i++) {
                int rest = flights.after(n, landings[base + i]);
                if (rest == ENDED) {
                    sum += weights[i] * power;
                } else if (rest != BUST && d > 1) {
                    sum += weights[i] * most[cell(rest, d - 1)];
                }
            }
            return sum;
        }
    }

    /** Least mean throws to the end, with the aim for it and the weight that it loses. */
    private static final class ThrowsTable {
        private final Flights flights;
        final double[] least = new double[MOST_LEFT + 1];
        final int[] aims = new int[MOST_LEFT + 1];
        final int[] lost = new int[MOST_LEFT + 1];
        private int settled;
        private int lostNow;

        ThrowsTable(Flights flights) {
            this.flights = flights;
            settled = 0;
            lostNow = 0;
        }

        void forget() {
            settled = 0;
        }

        boolean hasNone(int n) {
            return aims[n] == NONE;
        }

        void settleUpTo(int n) {
            for (int left = settled + 1; left <= n; left++) {
                settleOne(left);
                settled = left;
            }
        }

        private void settleOne(int n) {
            aims[n] = NONE;
            for (int aim = 0; aim < AIMS; aim++) {
                double now = meanThrows(aim, n);
                if (now > 0.0 && (aims[n] == NONE || now < least[n])) {
                    least[n] = now;
                    aims[n] = aim;
                    lost[n] = lostNow;
                }
            }
        }

        /** Keeps the lost weight in lostNow beside its answer; 0.0 for an aim that is left out. */
        private double meanThrows(int aim, int n) {
            int[] landings = flights.landings;
            int[] weights = flights.weights;
            int base = aim * STEPS;
            double sum = 0.0;
            int lostSum = 0;
            for (int i = 0; i < flights.count; i++) {
                int landing = landings[base + i];
                int rest = flights.after(n, landing);
                if (rest == BUST || landing == 0) {
                    lostSum += weights[i];
                } else if (rest != ENDED) {
                    if (hasNone(rest)) {
                        return 0.0;
                    }
                    sum += weights[i] * least[rest];
                }
            }
            lostNow = lostSum;
            int kept = flights.total - lostSum;
            return kept < 1 ? 0.0 : (flights.total + sum) / kept;
        }
    }

    /** The chance of who throws now, of two that throw one dart by turns. */
    private static final class WinsTable {
        private static final int ROW = MOST_WINS_LEFT + 1;

        private final Flights flights;
        private final ThrowsTable plan;
        private double[] chances;
        private boolean used;

        WinsTable(Flights flights, ThrowsTable plan) {
            this.flights = flights;
            this.plan = plan;
            chances = null;
            used = false;
        }

        void forget() {
            if (used && chances != null) {
                blank(chances);
                used = false;
            }
        }

        /** No chance comes near the number that stands for an unknown one. */
        private static void blank(double[] table) {
            Arrays.fill(table, -9.0);
        }

        private static boolean isKnown(double chance) {
            return chance > -1.0;
        }

        /** Both numbers have THROWS, and the plan is settled up to them. */
        double chance(int a, int b) {
            double[] table = chances;
            if (table == null) {
                // The largest row of the room: only a room that is asked for wins has it.
                table = new double[ROW * ROW];
                blank(table);
                chances = table;
            }
            if (!isKnown(table[a * ROW + b])) {
                used = true;
                settleUpTo(a, b, table);
            }
            return table[a * ROW + b];
        }

        /** A pair needs only pairs with one number smaller, in either order: those come first here. */
        private void settleUpTo(int a, int b, double[] table) {
            for (int p = 1; p <= a; p++) {
                for (int q = 1; q <= b; q++) {
                    boolean known = isKnown(table[p * ROW + q]);
                    if (!known && !plan.hasNone(p) && !plan.hasNone(q)) {
                        settlePair(p, q, table);
                    }
                }
            }
        }

        private void settlePair(int p, int q, double[] table) {
            double gainP = gain(p, q, table);
            double gainQ = gain(q, p, table);
            double lossP = (double) plan.lost[p] / flights.total;
            double lossQ = (double) plan.lost[q] / flights.total;
            table[p * ROW + q] = solve(gainP, lossP, gainQ, lossQ);
            table[q * ROW + p] = solve(gainQ, lossQ, gainP, lossP);
        }

        private static double solve(double gain, double loss, double otherGain, double otherLoss) {
            return (gain + loss * (1.0 - otherGain - otherLoss)) / (1.0 - loss * otherLoss);
        }

        private double gain(int p, int q, double[] table) {
            double sum = 0.0;
            int base = plan.aims[p] * STEPS;
            for (int i = 0; i < flights.count; i++) {
                int landing = flights.landings[base + i];
                int rest = flights.after(p, landing);
                if (rest == ENDED) {
                    sum += flights.weights[i];
                } else if (rest != BUST && landing != 0) {
                    sum += flights.weights[i] * (1.0 - table[q * ROW + rest]);
                }
            }
            return sum / flights.total;
        }
    }

    /** How a game stands; each dart makes a new one that knows the one before it. */
    private static final class Stand {
        final Stand before;
        final int darts;
        int drawn;
        int who;
        int left0;
        int left1;
        int turnLeft;
        int dartsLeft;
        int thrown;
        int lastBed;

        Stand(int n, int darts, int seed) {
            before = null;
            this.darts = darts;
            drawn = seed;
            who = 0;
            left0 = n;
            left1 = n;
            turnLeft = n;
            dartsLeft = darts;
            thrown = 0;
            lastBed = NONE;
        }

        Stand(Stand before) {
            this.before = before;
            darts = before.darts;
            drawn = before.drawn;
            who = before.who;
            left0 = before.left0;
            left1 = before.left1;
            turnLeft = before.turnLeft;
            dartsLeft = before.dartsLeft;
            thrown = before.thrown;
            lastBed = before.lastBed;
        }

        int leftOf(int player) {
            return player == 0 ? left0 : left1;
        }

        boolean isOver() {
            return left0 == 0 || left1 == 0;
        }

        void draw() {
            drawn = (drawn * 1103515245 + 12345) & 0x7fffffff;
        }

        void take(int landed, int rest) {
            thrown++;
            lastBed = landed;
            dartsLeft--;
            putLeft(rest == BUST ? turnLeft : rest);
            if (rest == BUST || (dartsLeft == 0 && rest != ENDED)) {
                passTurn();
            }
        }

        private void putLeft(int rest) {
            if (who == 0) {
                left0 = rest;
            } else {
                left1 = rest;
            }
        }

        private void passTurn() {
            who = 1 - who;
            turnLeft = leftOf(who);
            dartsLeft = darts;
        }

        int fact(int what) {
            switch (what) {
                case 0:
                    return who;
                case 1:
                    return left0;
                case 2:
                    return left1;
                case 3:
                    return dartsLeft;
                case 4:
                    return isOver() ? 1 : 0;
                case 5:
                    return thrown;
                default:
                    return lastBed;
            }
        }
    }
}
