import java.util.ArrayList;
import java.util.Arrays;
import java.util.HashMap;
import java.util.List;
import java.util.Map;

/** The document written down a second time, as plainly as it goes and with no care for speed. */
final class PaperRoom {
    static final int NONE = -1, BAD = -2, NO = -3;

    private final int[] values = {20, 1, 18, 4, 13, 6, 10, 15, 2, 17, 3, 19, 7, 16, 8, 11, 14, 9, 12, 5};
    private final int[][] weight = new int[5][5];
    private int rule = 1;

    private boolean anyGame = false;
    private long x;
    private int turnDarts;
    private int[] left = new int[2];
    private int who;
    private int dartsLeft;
    private int turnBegan;
    private boolean over;
    private int thrown;
    private int lastBed;
    private final List<long[]> saved = new ArrayList<>();

    private final Map<Integer, long[]> waysKnown = new HashMap<>();
    private final Map<Integer, double[]> throwsKnown = new HashMap<>();
    private final Map<Integer, Double> winsKnown = new HashMap<>();

    PaperRoom() {
        weight[2][2] = 1;
    }

    private static boolean in(int x, int low, int high) {
        return low <= x && x <= high;
    }

    private void changed() {
        waysKnown.clear();
        throwsKnown.clear();
        winsKnown.clear();
    }

    private int sumOfWeights() {
        int sum = 0;
        for (int[] row : weight) {
            for (int w : row) {
                sum += w;
            }
        }
        return sum;
    }

    int cloud(int dr, int ds, int v) {
        if (!in(dr, -2, 2) || !in(ds, -2, 2) || !in(v, 0, 200)) {
            return BAD;
        }
        int was = weight[dr + 2][ds + 2];
        weight[dr + 2][ds + 2] = v;
        if (sumOfWeights() == 0) {
            weight[dr + 2][ds + 2] = was;
            return NO;
        }
        changed();
        return was;
    }

    int rules(int r) {
        if (!in(r, 0, 1)) {
            return BAD;
        }
        int was = rule;
        rule = r;
        changed();
        return was;
    }

    int swap(int s, int t) {
        if (!in(s, 0, 19) || !in(t, 0, 19)) {
            return BAD;
        }
        exchange(s, t);
        changed();
        return 1;
    }

    private void exchange(int s, int t) {
        int kept = values[s];
        values[s] = values[t];
        values[t] = kept;
    }

    int value(int s) {
        return in(s, 0, 19) ? values[s] : BAD;
    }

    int bed(int r, int s) {
        if (!in(r, 0, 6) || !in(s, 0, 19)) {
            return BAD;
        }
        int[] fixed = {50, 25, -1, -1, -1, -1, 0};
        int[] times = {0, 0, 1, 3, 1, 2, 0};
        return fixed[r] >= 0 ? fixed[r] : times[r] * values[s];
    }

    /** Ring and sector in which a dart lands. */
    private static int[] landing(int aim, int dr, int ds) {
        int r = aim / 20 + dr;
        int s = aim % 20 + ds;
        if (r < 0) {
            return new int[] {-r, (s + 30) % 20};
        }
        return new int[] {r > 6 ? 6 : r, (s + 20) % 20};
    }

    private int counted(int aim, int dr, int ds) {
        int[] at = landing(aim, dr, ds);
        return bed(at[0], at[1]);
    }

    int lands(int aim, int r, int s) {
        if (!in(aim, 0, 119) || !in(r, 0, 6) || !in(s, 0, 19)) {
            return BAD;
        }
        int sum = 0;
        for (int dr = -2; dr <= 2; dr++) {
            for (int ds = -2; ds <= 2; ds++) {
                int[] at = landing(aim, dr, ds);
                if (at[0] == r && (r == 0 || r == 1 || r == 6 || at[1] == s)) {
                    sum += weight[dr + 2][ds + 2];
                }
            }
        }
        return sum;
    }

    int mean(int aim) {
        if (!in(aim, 0, 119)) {
            return BAD;
        }
        int sum = 0;
        for (int dr = -2; dr <= 2; dr++) {
            for (int ds = -2; ds <= 2; ds++) {
                sum += weight[dr + 2][ds + 2] * counted(aim, dr, ds);
            }
        }
        return sum;
    }

    int best() {
        int at = 0;
        for (int aim = 1; aim < 120; aim++) {
            if (mean(aim) > mean(at)) {
                at = aim;
            }
        }
        return at;
    }

    private boolean ends(int n, int v, int ring) {
        return v == n && (rule == 0 || ring == 0 || ring == 5);
    }

    private boolean bust(int n, int v, int ring) {
        if (v > n) {
            return true;
        }
        if (rule == 0) {
            return false;
        }
        return n - v == 1 || (n - v == 0 && ring != 0 && ring != 5);
    }

    /** The ways, and the aim. */
    private long[] waysAndAim(int n, int d) {
        if (d == 0) {
            return new long[] {0, NONE};
        }
        long[] known = waysKnown.get(n * 4 + d);
        if (known != null) {
            return known;
        }
        long power = 1;
        for (int i = 1; i < d; i++) {
            power *= sumOfWeights();
        }
        long[] found = {0, NONE};
        for (int aim = 0; aim < 120; aim++) {
            long sum = 0;
            for (int dr = -2; dr <= 2; dr++) {
                for (int ds = -2; ds <= 2; ds++) {
                    long w = weight[dr + 2][ds + 2];
                    if (w == 0) {
                        continue;
                    }
                    int ring = landing(aim, dr, ds)[0];
                    int v = counted(aim, dr, ds);
                    if (ends(n, v, ring)) {
                        sum += w * power;
                    } else if (!bust(n, v, ring)) {
                        sum += w * waysAndAim(n - v, d - 1)[0];
                    }
                }
            }
            if (sum > found[0]) {
                found = new long[] {sum, aim};
            }
        }
        waysKnown.put(n * 4 + d, found);
        return found;
    }

    long ways(int n, int d) {
        return in(n, 1, 301) && in(d, 1, 3) ? waysAndAim(n, d)[0] : BAD;
    }

    int wayAim(int n, int d) {
        return in(n, 1, 301) && in(d, 1, 3) ? (int) waysAndAim(n, d)[1] : BAD;
    }

    int hopeless(int d) {
        if (!in(d, 1, 3)) {
            return BAD;
        }
        int sum = 0;
        for (int n = 1; n <= 180; n++) {
            sum += ways(n, d) == 0 ? 1 : 0;
        }
        return sum;
    }

    /** The throws, the aim and S; null for none. */
    private double[] throwsAndAim(int n) {
        if (throwsKnown.containsKey(n)) {
            return throwsKnown.get(n);
        }
        double[] found = null;
        double all = sumOfWeights();
        for (int aim = 0; aim < 120; aim++) {
            double lost = 0.0;
            double sum = 0.0;
            boolean out = false;
            for (int dr = -2; dr <= 2; dr++) {
                for (int ds = -2; ds <= 2; ds++) {
                    double w = weight[dr + 2][ds + 2];
                    if (w == 0.0) {
                        continue;
                    }
                    int ring = landing(aim, dr, ds)[0];
                    int v = counted(aim, dr, ds);
                    if (v == 0 || bust(n, v, ring)) {
                        lost += w;
                    } else if (!ends(n, v, ring)) {
                        double[] next = throwsAndAim(n - v);
                        if (next == null) {
                            out = true;
                        } else {
                            sum += w * next[0];
                        }
                    }
                }
            }
            if (!out && lost != all && (found == null || (all + sum) / (all - lost) < found[0])) {
                found = new double[] {(all + sum) / (all - lost), aim, lost};
            }
        }
        throwsKnown.put(n, found);
        return found;
    }

    long throwsOf(int n) {
        if (!in(n, 1, 301)) {
            return BAD;
        }
        double[] found = throwsAndAim(n);
        return found == null ? NONE : Double.doubleToRawLongBits(found[0]);
    }

    int aimOf(int n) {
        if (!in(n, 1, 301)) {
            return BAD;
        }
        double[] found = throwsAndAim(n);
        return found == null ? NONE : (int) found[1];
    }

    private double gain(int p, int q) {
        int aim = (int) throwsAndAim(p)[1];
        double sum = 0.0;
        for (int dr = -2; dr <= 2; dr++) {
            for (int ds = -2; ds <= 2; ds++) {
                double w = weight[dr + 2][ds + 2];
                int ring = landing(aim, dr, ds)[0];
                int v = counted(aim, dr, ds);
                if (w > 0.0 && v != 0 && !bust(p, v, ring)) {
                    sum += w * (ends(p, v, ring) ? 1.0 : 1.0 - chance(q, p - v));
                }
            }
        }
        return sum / sumOfWeights();
    }

    private double chance(int a, int b) {
        Double known = winsKnown.get(a * 100 + b);
        if (known != null) {
            return known;
        }
        double big = gain(a, b);
        double other = gain(b, a);
        double g = throwsAndAim(a)[2] / sumOfWeights();
        double h = throwsAndAim(b)[2] / sumOfWeights();
        double found = (big + g * (1.0 - other - h)) / (1.0 - g * h);
        winsKnown.put(a * 100 + b, found);
        return found;
    }

    long wins(int a, int b) {
        if (!in(a, 1, 80) || !in(b, 1, 80)) {
            return BAD;
        }
        if (throwsAndAim(a) == null || throwsAndAim(b) == null) {
            return NONE;
        }
        return Double.doubleToRawLongBits(chance(a, b));
    }

    int luck() {
        int sum = Math.abs(values[19] - values[0]);
        for (int s = 0; s < 19; s++) {
            sum += Math.abs(values[s] - values[s + 1]);
        }
        return sum;
    }

    int luckier() {
        int most = luck();
        int found = NONE;
        for (int s = 0; s < 20; s++) {
            for (int t = s + 1; t < 20; t++) {
                exchange(s, t);
                if (luck() > most) {
                    most = luck();
                    found = 32 * s + t;
                }
                exchange(s, t);
            }
        }
        return found;
    }

    int game(int n, int darts, int seed) {
        if (!in(n, 2, 301) || !in(darts, 1, 3) || seed < 0) {
            return BAD;
        }
        anyGame = true;
        x = seed;
        turnDarts = darts;
        left = new int[] {n, n};
        who = 0;
        dartsLeft = darts;
        turnBegan = n;
        over = false;
        thrown = 0;
        lastBed = NONE;
        saved.clear();
        return 1;
    }

    int dart(int aim) {
        if (!in(aim, -1, 119)) {
            return BAD;
        }
        if (!anyGame || over) {
            return NO;
        }
        int at = aim == NONE ? aimOf(left[who]) : aim;
        if (at == NONE) {
            return NO;
        }
        saved.add(new long[] {x, left[0], left[1], who, dartsLeft, turnBegan, lastBed});
        x = (x * 1103515245L + 12345L) % (1L << 31);
        long rest = x / 65536 % sumOfWeights();
        int step = 0;
        while (rest >= weight[step / 5][step % 5]) {
            rest -= weight[step / 5][step % 5];
            step++;
        }
        int[] landed = landing(at, step / 5 - 2, step % 5 - 2);
        int v = bed(landed[0], landed[1]);
        thrown++;
        lastBed = 20 * landed[0] + landed[1];
        dartsLeft--;
        if (ends(left[who], v, landed[0])) {
            left[who] = 0;
            over = true;
            return v;
        }
        boolean lost = bust(left[who], v, landed[0]);
        left[who] = lost ? turnBegan : left[who] - v;
        if (lost || dartsLeft == 0) {
            who = 1 - who;
            dartsLeft = turnDarts;
            turnBegan = left[who];
        }
        return lost ? -1000 - v : v;
    }

    int about(int what) {
        if (!in(what, 0, 6)) {
            return BAD;
        }
        if (!anyGame) {
            return NO;
        }
        return new int[] {who, left[0], left[1], dartsLeft, over ? 1 : 0, thrown, lastBed}[what];
    }

    int undo() {
        if (!anyGame || thrown == 0) {
            return NO;
        }
        long[] was = saved.remove(saved.size() - 1);
        x = was[0];
        left = new int[] {(int) was[1], (int) was[2]};
        who = (int) was[3];
        dartsLeft = (int) was[4];
        turnBegan = (int) was[5];
        lastBed = (int) was[6];
        over = false;
        thrown--;
        return thrown;
    }

    long digest() {
        List<Integer> row = new ArrayList<>();
        Arrays.stream(values).forEach(row::add);
        for (int[] weights : weight) {
            Arrays.stream(weights).forEach(row::add);
        }
        row.addAll(List.of(rule, sumOfWeights(), luck()));
        for (int what = 0; anyGame && what <= 6; what++) {
            row.add(about(what));
        }
        long h = 151;
        for (int v : row) {
            h = 31 * h + v;
        }
        return h;
    }
}
