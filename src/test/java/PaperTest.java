import java.util.Random;

/** Long runs of drawn calls: DartRoom and PaperRoom must answer alike, and no call may throw. */
public final class PaperTest {
    private static final int[] WILD = {
        Integer.MIN_VALUE, Integer.MAX_VALUE, -1000, -4, -3, -2, -1, 0, 1, 2, 3, 4, 5, 6, 7, 19, 20, 21,
        25, 32, 80, 81, 119, 120, 121, 139, 140, 180, 181, 200, 201, 300, 301, 302, 1 << 16, 1 << 30
    };

    private final Check check = new Check("PaperTest");
    private final Random random;
    private final int wildOneIn;
    private DartRoom room = new DartRoom();
    private PaperRoom paper = new PaperRoom();
    private final int[] weights = new int[25];
    private int rule;
    private int rounds = 0;

    private PaperTest(long seed) {
        random = new Random(seed);
        wildOneIn = 4 + random.nextInt(30);
    }

    private int number(int low, int high) {
        if (random.nextInt(wildOneIn) == 0) {
            return random.nextInt(10) == 0 ? random.nextInt() : WILD[random.nextInt(WILD.length)];
        }
        return low + random.nextInt(high - low + 1);
    }

    private int left(int high) {
        return random.nextInt(3) == 0 ? number(1, high) : number(1, Math.min(62, high));
    }

    private void change() {
        int kind = random.nextInt(8);
        if (kind == 0) {
            int r = number(0, 1);
            check.due("rules(" + r + ")", room.rules(r), paper.rules(r));
        } else if (kind == 1) {
            int s = number(0, 19);
            int t = number(0, 19);
            check.due("swap(" + s + ", " + t + ")", room.swap(s, t), paper.swap(s, t));
        } else {
            int dr = number(-2, 2);
            int ds = number(-2, 2);
            int most = random.nextInt(4) == 0 ? 200 : 5;
            int v = random.nextInt(3) == 0 ? 0 : number(0, most);
            check.due("cloud(" + dr + ", " + ds + ", " + v + ")", room.cloud(dr, ds, v), paper.cloud(dr, ds, v));
        }
    }

    private void ask() {
        int kind = random.nextInt(14);
        int aim = number(0, 119);
        int r = number(0, 6);
        int s = number(0, 19);
        int n = left(301);
        int d = number(1, 3);
        int a = left(80);
        int b = left(80);
        switch (kind) {
            case 0 -> check.due("value(" + s + ")", room.value(s), paper.value(s));
            case 1 -> check.due("bed(" + r + ", " + s + ")", room.bed(r, s), paper.bed(r, s));
            case 2, 3 -> {
                String call = "lands(" + aim + ", " + r + ", " + s + ")";
                check.due(call, room.lands(aim, r, s), paper.lands(aim, r, s));
            }
            case 4 -> check.due("mean(" + aim + ")", room.mean(aim), paper.mean(aim));
            case 5 -> check.due("best()", room.best(), paper.best());
            case 6 -> check.due("ways(" + n + ", " + d + ")", room.ways(n, d), paper.ways(n, d));
            case 7 -> check.due("wayAim(" + n + ", " + d + ")", room.wayAim(n, d), paper.wayAim(n, d));
            case 8 -> check.due("hopeless(" + d + ")", room.hopeless(d), paper.hopeless(d));
            case 9 -> check.due("throwsOf(" + n + ")", room.throwsOf(n), paper.throwsOf(n));
            case 10 -> check.due("aimOf(" + n + ")", room.aimOf(n), paper.aimOf(n));
            case 11 -> check.due("wins(" + a + ", " + b + ")", room.wins(a, b), paper.wins(a, b));
            case 12 -> check.due("luck()", room.luck(), paper.luck());
            default -> check.due("luckier()", room.luckier(), paper.luckier());
        }
    }

    private void play() {
        int kind = random.nextInt(20);
        if (kind == 0) {
            int n = left(301);
            int darts = number(1, 3);
            int seed = number(0, 5000);
            String call = "game(" + n + ", " + darts + ", " + seed + ")";
            check.due(call, room.game(n, darts, seed), paper.game(n, darts, seed));
        } else if (kind < 10) {
            int aim = random.nextInt(3) == 0 ? -1 : number(0, 119);
            check.due("dart(" + aim + ")", room.dart(aim), paper.dart(aim));
        } else if (kind < 13) {
            check.due("undo()", room.undo(), paper.undo());
        } else {
            int what = number(0, 6);
            check.due("about(" + what + ")", room.about(what), paper.about(what));
        }
    }

    private boolean run() {
        int changes = 1 + random.nextInt(12);
        int plays = random.nextInt(60);
        for (int call = 0; call < 512; call += 2) {
            int drawn = random.nextInt(100);
            if (drawn < changes) {
                change();
            } else if (drawn < changes + plays) {
                play();
            } else {
                ask();
            }
            check.due("digest() as call " + (call + 1), room.digest(), paper.digest());
        }
        return check.clean();
    }

    /** The whole tables of one cloud, which drawn calls would seldom look through. */
    private boolean sweep() {
        drawCloud();
        rule = random.nextInt(2);
        changePaper();
        for (int n = 1; n <= 301; n++) {
            renew();
            check.due("throwsOf(" + n + ")", room.throwsOf(n), paper.throwsOf(n));
            check.due("aimOf(" + n + ")", room.aimOf(n), paper.aimOf(n));
            for (int d = 1; d <= 3; d++) {
                check.due("ways(" + n + ", " + d + ")", room.ways(n, d), paper.ways(n, d));
                check.due("wayAim(" + n + ", " + d + ")", room.wayAim(n, d), paper.wayAim(n, d));
            }
        }
        for (int a = 80; a >= 1; a--) {
            for (int b = 1; b <= 80; b++) {
                renew();
                check.due("wins(" + a + ", " + b + ")", room.wins(a, b), paper.wins(a, b));
            }
        }
        return check.clean();
    }

    /** Some clouds have great weights everywhere, some only a few small ones, some no middle. */
    private void drawCloud() {
        int steps = 1 + random.nextInt(25);
        int most = random.nextBoolean() ? 4 : 201;
        for (int i = 0; i < steps; i++) {
            weights[random.nextInt(25)] = random.nextInt(most);
        }
        weights[12] = random.nextInt(3) == 0 ? 0 : 1 + random.nextInt(200);
        weights[random.nextInt(25)] = 1 + random.nextInt(2);
    }

    /** The middle comes last, so that no cloud on the way has a sum of 0. */
    private static int stepAt(int i) {
        return i < 12 ? i : i < 24 ? i + 1 : 12;
    }

    private void changePaper() {
        for (int i = 0; i < 25; i++) {
            paper.cloud(stepAt(i) / 5 - 2, stepAt(i) % 5 - 2, weights[stepAt(i)]);
        }
        paper.rules(rule);
    }

    /** An object is used for 512 calls; the tables take more. */
    private void renew() {
        if (rounds % 40 == 0) {
            room = new DartRoom();
            for (int i = 0; i < 25; i++) {
                room.cloud(stepAt(i) / 5 - 2, stepAt(i) % 5 - 2, weights[stepAt(i)]);
            }
            room.rules(rule);
        }
        rounds++;
    }

    public static void main(String[] args) {
        int runs = args.length > 0 ? Integer.parseInt(args[0]) : 150;
        int sweeps = args.length > 1 ? Integer.parseInt(args[1]) : 12;
        boolean clean = true;
        for (int seed = 0; seed < runs && clean; seed++) {
            clean = new PaperTest(seed).run();
            if (!clean) {
                System.out.println("in the run of seed " + seed);
            }
        }
        for (int seed = 0; seed < sweeps && clean; seed++) {
            clean = new PaperTest(1000 + seed).sweep();
            if (!clean) {
                System.out.println("in the sweep of seed " + seed);
            }
        }
        System.out.println("PaperTest: " + runs + " runs, " + sweeps + " sweeps: " + (clean ? "alike" : "not alike"));
        System.exit(clean ? 0 : 1);
    }
}
