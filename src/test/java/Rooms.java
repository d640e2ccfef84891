/** Rooms made ready for a test, and small sums that several tests do on paper. */
final class Rooms {
    static final int LOW = Integer.MIN_VALUE, HIGH = Integer.MAX_VALUE;
    static final int[] FIRST = {20, 1, 18, 4, 13, 6, 10, 15, 2, 17, 3, 19, 7, 16, 8, 11, 14, 9, 12, 5};

    private Rooms() {
    }

    /** A room whose cloud has just these weights: dr, ds, v, dr, ds, v .. */
    static DartRoom clouded(int... steps) {
        DartRoom room = new DartRoom();
        putCloud(room, steps);
        return room;
    }

    static void putCloud(DartRoom room, int... steps) {
        boolean middle = false;
        for (int i = 0; i < steps.length; i += 3) {
            room.cloud(steps[i], steps[i + 1], steps[i + 2]);
            middle |= steps[i] == 0 && steps[i + 1] == 0;
        }
        if (!middle) {
            room.cloud(0, 0, 0);
        }
    }

    /** Every weight is 200, the greatest: W is 5000. */
    static void putFullCloud(DartRoom room) {
        for (int step = 0; step < 25; step++) {
            room.cloud(step / 5 - 2, step % 5 - 2, 200);
        }
    }

    static long bits(double x) {
        return Double.doubleToRawLongBits(x);
    }

    /** What a bed of a new board counts. */
    static int counts(int ring, int sector) {
        int v = FIRST[sector];
        return new int[] {50, 25, v, 3 * v, v, 2 * v, 0}[ring];
    }

    /** A seed whose first draw leaves this rest of W. */
    static int seedFor(int rest, int all) {
        for (int seed = 0; seed < 2_000_000; seed++) {
            if (drawn(seed) / 65536 % all == rest) {
                return seed;
            }
        }
        throw new IllegalStateException("no seed leaves " + rest + " of " + all);
    }

    /** The number behind x in the row of draws. */
    static long drawn(long x) {
        return (x * 1103515245L + 12345L) % (1L << 31);
    }

    /** LUCK of a row of values. */
    static int luckOf(int[] values) {
        int sum = 0;
        int before = values[values.length - 1];
        for (int v : values) {
            sum += v > before ? v - before : before - v;
            before = v;
        }
        return sum;
    }
}
