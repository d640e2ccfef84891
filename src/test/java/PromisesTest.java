/** Each promise by answers worked out on paper: ordinary calls, edges, and what is refused. */
public final class PromisesTest {
    private static final Check CHECK = new Check("PromisesTest");
    private static final int NONE = DartRoom.NONE, BAD = DartRoom.BAD, NO = DartRoom.NO;
    private static final int LOW = Rooms.LOW, HIGH = Rooms.HIGH;
    private static final int[] FIRST = Rooms.FIRST;

    private static void due(String call, long got, long want) {
        CHECK.due(call, got, want);
    }

    private static long bits(double x) {
        return Rooms.bits(x);
    }

    private static DartRoom clouded(int... steps) {
        return Rooms.clouded(steps);
    }

    private static void newObject() {
        DartRoom room = new DartRoom();
        for (int s = 0; s < 20; s++) {
            due("1 value(" + s + ")", room.value(s), FIRST[s]);
        }
        due("1 about(0)", room.about(0), NO);
        due("1 undo()", room.undo(), NO);
        due("1 dart(0)", room.dart(0), NO);
        due("1 rules(1)", room.rules(1), 1);
        for (int dr = -2; dr <= 2; dr++) {
            for (int ds = -2; ds <= 2; ds++) {
                int first = dr == 0 && ds == 0 ? 1 : 0;
                due("1 cloud(" + dr + ", " + ds + ")", room.cloud(dr, ds, first), first);
            }
        }
        DartRoom other = new DartRoom();
        other.swap(0, 1);
        due("1 another room's swap", room.value(0), 20);
        due("1 NONE", NONE, -1);
        due("1 BAD", BAD, -2);
        due("1 NO", NO, -3);
    }

    private static void cloud() {
        DartRoom room = new DartRoom();
        due("2 the only weight to 0", room.cloud(0, 0, 0), NO);
        due("2 still there", room.mean(60), 60);
        due("2 another 0 stays 0", room.cloud(1, 1, 0), 0);
        int[][] wrong = {
            {-3, 0, 1}, {3, 0, 1}, {0, -3, 1}, {0, 3, 1}, {0, 0, -1}, {0, 0, 201}, {LOW, 0, 1}, {HIGH, 0, 1},
            {0, LOW, 1}, {0, HIGH, 1}, {0, 0, LOW}, {0, 0, HIGH}, {3, 3, 0}, {HIGH - 1, -2, 0}, {LOW + 2, 2, 0}
        };
        long before = room.digest();
        for (int[] w : wrong) {
            due("2 cloud(" + w[0] + ", " + w[1] + ", " + w[2] + ")", room.cloud(w[0], w[1], w[2]), BAD);
        }
        due("2 refused changes nothing", room.digest(), before);
        for (int dr = -2; dr <= 2; dr++) {
            for (int ds = -2; ds <= 2; ds++) {
                due("2 first", room.cloud(dr, ds, 200), dr == 0 && ds == 0 ? 1 : 0);
                due("2 again", room.cloud(dr, ds, 200), 200);
            }
        }
        due("2 a full cloud", room.lands(70, 3, 10), 200);
        due("2 the middle may go now", room.cloud(0, 0, 0), 200);
        due("2 it is gone", room.lands(70, 3, 10), 0);
        due("2 its neighbour is not", room.lands(70, 3, 11), 200);
    }

    private static void rules() {
        DartRoom room = new DartRoom();
        due("3 rules(0)", room.rules(0), 1);
        due("3 rules(0)", room.rules(0), 0);
        long before = room.digest();
        for (int r : new int[] {-1, 2, LOW, HIGH}) {
            due("3 rules(" + r + ")", room.rules(r), BAD);
        }
        due("3 refused changes nothing", room.digest(), before);
        due("3 STRAIGHT ends 1", room.ways(1, 1), 1);
        due("3 rules(1)", room.rules(1), 0);
        due("3 DOUBLE does not end 1", room.ways(1, 1), 0);
        due("3 DOUBLE does not end 60 at once", room.ways(60, 1), 0);
        due("3 rules(0)", room.rules(0), 1);
        due("3 STRAIGHT ends 60 at once", room.ways(60, 1), 1);
    }

    private static void swapAndValue() {
        DartRoom room = new DartRoom();
        due("4 swap(0, 19)", room.swap(0, 19), 1);
        due("5 value(0)", room.value(0), 5);
        due("5 value(19)", room.value(19), 20);
        due("4 the plans see it", room.aimOf(40), 119);
        due("4 swap(19, 0)", room.swap(19, 0), 1);
        due("4 and see it go", room.aimOf(40), 100);
        due("4 swap(7, 7)", room.swap(7, 7), 1);
        due("5 value(7)", room.value(7), 15);
        long before = room.digest();
        for (int s : new int[] {-1, 20, LOW, HIGH}) {
            due("4 swap(" + s + ", 0)", room.swap(s, 0), BAD);
            due("4 swap(0, " + s + ")", room.swap(0, s), BAD);
            due("5 value(" + s + ")", room.value(s), BAD);
        }
        due("4 refused changes nothing", room.digest(), before);
    }

    private static void bed() {
        DartRoom room = new DartRoom();
        for (int s = 0; s < 20; s++) {
            int[] want = {50, 25, FIRST[s], 3 * FIRST[s], FIRST[s], 2 * FIRST[s], 0};
            for (int r = 0; r <= 6; r++) {
                due("6 bed(" + r + ", " + s + ")", room.bed(r, s), want[r]);
            }
        }
        room.swap(3, 8);
        due("6 bed(3, 8) behind a swap", room.bed(3, 8), 12);
        for (int wrong : new int[] {-1, LOW, HIGH}) {
            due("6 wrong ring", room.bed(wrong, 0), BAD);
            due("6 wrong sector", room.bed(0, wrong), BAD);
        }
        due("6 bed(7, 0)", room.bed(7, 0), BAD);
        due("6 bed(6, 20)", room.bed(6, 20), BAD);
    }

    private static void lands() {
        DartRoom room = clouded(-2, -2, 1, -2, 2, 2, -1, 0, 4, 0, 0, 8, 1, 2, 16, 2, -1, 32);
        due("7 bull, two rings through it", room.lands(0, 2, 8), 1);
        due("7 the other side", room.lands(0, 2, 12), 2);
        due("7 one ring through it, any sector", room.lands(0, 1, 5), 4 + 16);
        due("7 the bull itself, any sector", room.lands(7, 0, 19), 8);
        due("7 out of the bull", room.lands(0, 2, 19), 32);
        due("7 ring 1 by two is ring 1", room.lands(20, 1, 0), 1 + 2 + 8);
        due("7 ring 1 by one is the bull", room.lands(23, 0, 0), 4);
        due("7 ring 5 by one and two is beyond", room.lands(119, 6, 3), 16 + 32);
        due("7 ring 4 by two is beyond", room.lands(80, 6, 0), 32);
        due("7 round the board upwards", room.lands(98, 5, 0), 16);
        due("7 round the board downwards", room.lands(40, 0, 0), 1 + 2);
        due("7 round by -2", room.lands(60, 1, 0), 1 + 2);
        due("7 sector -2 of 1", room.lands(101, 3, 19), 1);
        due("7 sector -1 of 0", room.lands(40, 4, 19), 32);
        due("7 another sector", room.lands(40, 4, 0), 0);
        due("7 another ring", room.lands(40, 5, 19), 0);
        int[][] wrong = {{-1, 0, 0}, {120, 0, 0}, {0, -1, 0}, {0, 7, 0}, {0, 0, -1}, {0, 0, 20}, {LOW, 0, 0}, {0, HIGH, 0}};
        for (int[] w : wrong) {
            due("7 lands(" + w[0] + ", " + w[1] + ", " + w[2] + ")", room.lands(w[0], w[1], w[2]), BAD);
        }
    }

    private static void meanAndBest() {
        DartRoom room = clouded(0, 0, 1, 0, 1, 2, 0, -1, 3);
        due("8 mean(60)", room.mean(60), 60 + 2 * 3 + 3 * 15);
        due("8 mean(119)", room.mean(119), 10 + 2 * 40 + 3 * 24);
        due("8 mean(0)", room.mean(0), 300);
        due("8 mean(-1)", room.mean(-1), BAD);
        due("8 mean(120)", room.mean(120), BAD);
        due("8 mean(LOW)", room.mean(LOW), BAD);
        due("9 first of 20 like ones", room.best(), 0);
        due("9 best() of a new room", new DartRoom().best(), 60);
        DartRoom swapped = new DartRoom();
        swapped.swap(0, 5);
        due("9 behind a swap", swapped.best(), 65);
        due("9 one ring out", clouded(1, 0, 1).best(), 40);
        due("9 one ring in", clouded(-1, 0, 1).best(), 80);
        due("9 two rings in", clouded(-2, 0, 1).best(), 100);
        due("9 two rings out, one on", clouded(2, 1, 5).best(), 39);
        due("9 the mean of it", clouded(2, 1, 5).mean(39), 300);
    }

    private static void ways() {
        DartRoom room = new DartRoom();
        due("10 ways(170, 3)", room.ways(170, 3), 1);
        due("11 wayAim(170, 3)", room.wayAim(170, 3), 60);
        due("10 ways(169, 3)", room.ways(169, 3), 0);
        due("11 wayAim(169, 3)", room.wayAim(169, 3), NONE);
        due("10 ways(50, 1)", room.ways(50, 1), 1);
        due("11 wayAim(50, 1)", room.wayAim(50, 1), 0);
        due("10 ways(25, 1)", room.ways(25, 1), 0);
        due("10 ways(1, 3)", room.ways(1, 3), 0);
        due("10 ways(301, 3)", room.ways(301, 3), 0);
        due("12 hopeless(1)", room.hopeless(1), 159);
        due("12 hopeless(2)", room.hopeless(2), 78);
        due("12 hopeless(3)", room.hopeless(3), 18);
        room.rules(0);
        due("10 STRAIGHT ways(180, 3)", room.ways(180, 3), 1);
        due("10 STRAIGHT ways(181, 3)", room.ways(181, 3), 0);
        due("11 STRAIGHT wayAim(1, 1)", room.wayAim(1, 1), 41);
        due("12 STRAIGHT hopeless(1)", room.hopeless(1), 137);
        waysOfClouds();
        int[][] wrong = {{0, 1}, {302, 1}, {1, 0}, {1, 4}, {-1, 1}, {LOW, 1}, {HIGH, 1}, {1, LOW}, {1, HIGH}};
        for (int[] w : wrong) {
            due("10 ways(" + w[0] + ", " + w[1] + ")", room.ways(w[0], w[1]), BAD);
            due("11 wayAim(" + w[0] + ", " + w[1] + ")", room.wayAim(w[0], w[1]), BAD);
        }
        for (int d : new int[] {0, 4, -1, LOW, HIGH}) {
            due("12 hopeless(" + d + ")", room.hopeless(d), BAD);
        }
    }

    private static void waysOfClouds() {
        // Half of the darts go one ring too far: from ring 4 the other half is bust, from ring 5 it may go on.
        DartRoom room = clouded(0, 0, 1, 1, 0, 1);
        due("10 ways(2, 1)", room.ways(2, 1), 1);
        due("11 the first of like ones", room.wayAim(2, 1), 81);
        due("10 ways(2, 2)", room.ways(2, 2), 3);
        due("11 wayAim(2, 2)", room.wayAim(2, 2), 101);
        due("10 ways(2, 3)", room.ways(2, 3), 7);
        room.cloud(0, 0, 200);
        due("10 weights multiply", room.ways(2, 3), 200L * 201 * 201 + 200 * 201 + 200);
        DartRoom wide = new DartRoom();
        Rooms.putFullCloud(wide);
        wide.rules(0);
        PaperRoom paper = new PaperRoom();
        for (int step = 0; step < 25; step++) {
            paper.cloud(step / 5 - 2, step % 5 - 2, 200);
        }
        paper.rules(0);
        due("10 beyond 32 bits", wide.ways(50, 3), paper.ways(50, 3));
        CHECK.holds("10 it is beyond 32 bits", wide.ways(50, 3) > 1L << 32);
        DartRoom inward = clouded(-1, 0, 1);
        due("12 only the bull can end", inward.hopeless(1), 179);
    }

    private static void throwsAndAims() {
        DartRoom room = new DartRoom();
        due("13 throwsOf(1)", room.throwsOf(1), -1);
        due("14 aimOf(1)", room.aimOf(1), NONE);
        due("13 throwsOf(2)", room.throwsOf(2), bits(1.0));
        due("14 aimOf(2)", room.aimOf(2), 101);
        due("13 throwsOf(3)", room.throwsOf(3), bits(2.0));
        due("14 aimOf(3)", room.aimOf(3), 41);
        due("14 aimOf(50)", room.aimOf(50), 0);
        due("13 throwsOf(170)", room.throwsOf(170), bits(3.0));
        due("13 throwsOf(301)", room.throwsOf(301), bits(6.0));
        room.rules(0);
        due("13 STRAIGHT throwsOf(1)", room.throwsOf(1), bits(1.0));
        due("14 STRAIGHT aimOf(1)", room.aimOf(1), 41);
        due("13 STRAIGHT throwsOf(301)", room.throwsOf(301), bits(6.0));
        due("13 STRAIGHT throwsOf(300)", room.throwsOf(300), bits(5.0));
        DartRoom half = clouded(0, 0, 1, 1, 0, 1);
        due("13 half are lost", half.throwsOf(2), bits(2.0));
        due("14 the first of like ones", half.aimOf(2), 81);
        DartRoom third = clouded(0, 0, 2, 1, 0, 1);
        due("13 a third is lost", third.throwsOf(2), bits(3.0 / 2.0));
        due("13 4 falls to 2", third.throwsOf(4), bits(3.0 / 2.0));
        DartRoom inward = clouded(-1, 0, 7);
        due("13 only the bull ends: 49", inward.throwsOf(49), -1);
        due("14 only the bull ends: 49", inward.aimOf(49), NONE);
        due("13 only the bull ends: 50", inward.throwsOf(50), bits(1.0));
        due("14 only the bull ends: 50", inward.aimOf(50), 20);
        due("13 only the bull ends: 51", inward.throwsOf(51), bits(2.0));
        due("14 only the bull ends: 51", inward.aimOf(51), 61);
        due("13 none again", inward.throwsOf(2), -1);
        due("13 a new weight mends it", inward.cloud(1, 0, 1), 0);
        CHECK.holds("13 then 2 has throws", inward.throwsOf(2) > 0);
        for (int n : new int[] {0, 302, -1, LOW, HIGH}) {
            due("13 throwsOf(" + n + ")", room.throwsOf(n), BAD);
            due("14 aimOf(" + n + ")", room.aimOf(n), BAD);
        }
    }

    private static void wins() {
        DartRoom room = new DartRoom();
        due("15 wins(2, 2)", room.wins(2, 2), bits(1.0));
        due("15 wins(3, 2)", room.wins(3, 2), bits(0.0));
        due("15 wins(3, 3)", room.wins(3, 3), bits(1.0));
        due("15 wins(80, 80)", room.wins(80, 80), bits(1.0));
        due("15 wins(1, 2)", room.wins(1, 2), -1);
        due("15 wins(2, 1)", room.wins(2, 1), -1);
        DartRoom half = clouded(0, 0, 1, 1, 0, 1);
        due("15 half are lost", half.wins(2, 2), bits(0.5 / 0.75));
        DartRoom third = clouded(0, 0, 2, 1, 0, 1);
        CHECK.near("15 a third is lost", third.wins(2, 2), 3.0 / 4.0);
        third.cloud(1, 0, 8);
        CHECK.near("15 a fifth is lost from ring 4", third.wins(2, 2), 5.0 / 6.0);
        int[][] wrong = {{0, 1}, {1, 0}, {81, 2}, {2, 81}, {-1, 2}, {LOW, 2}, {2, LOW}, {HIGH, 2}, {2, HIGH}};
        for (int[] w : wrong) {
            due("15 wins(" + w[0] + ", " + w[1] + ")", room.wins(w[0], w[1]), BAD);
        }
    }

    private static void luck() {
        DartRoom room = new DartRoom();
        due("16 luck()", room.luck(), 198);
        due("17 luckier()", room.luckier(), NONE);
        room.swap(4, 5);
        due("16 luck() of a worse board", room.luck(), 190);
        due("17 luckier()", room.luckier(), 32 * 3 + 6);
        due("17 it changes nothing", room.luck(), 190);
        room.swap(3, 6);
        int after = room.luck();
        CHECK.holds("17 it is luckier", after > 190);
        DartRoom sorted = new DartRoom();
        for (int s = 0; s < 20; s++) {
            for (int t = s + 1; t < 20; t++) {
                if (sorted.value(t) < sorted.value(s)) {
                    sorted.swap(s, t);
                }
            }
        }
        due("16 1 to 20 in order", sorted.luck(), 38);
        // 2 and 19 change places: four differences of 1 become 18, 16, 16 and 18; no pair gains more.
        due("17 it would make 102", luckBehind(sorted, 1, 18), 102);
        due("17 1 to 20 in order", sorted.luckier(), 32 * 1 + 18);
    }

    private static int luckBehind(DartRoom room, int s, int t) {
        room.swap(s, t);
        int found = room.luck();
        room.swap(s, t);
        return found;
    }

    private static void facts(String when, DartRoom room, int... want) {
        for (int what = 0; what < 7; what++) {
            due(when + " about(" + what + ")", room.about(what), want[what]);
        }
    }

    private static void games() {
        DartRoom room = new DartRoom();
        due("20 BAD comes first", room.about(7), BAD);
        due("19 BAD comes first", room.dart(120), BAD);
        int[][] wrong = {{1, 1, 0}, {302, 1, 0}, {2, 0, 0}, {2, 4, 0}, {2, 1, -1}, {LOW, 1, 0}, {2, HIGH, 0}, {2, 1, LOW}};
        for (int[] w : wrong) {
            due("18 game(" + w[0] + ", " + w[1] + ", " + w[2] + ")", room.game(w[0], w[1], w[2]), BAD);
        }
        due("18 no game by a refused one", room.about(0), NO);
        due("18 game(301, 3, HIGH)", room.game(301, 3, HIGH), 1);
        facts("18", room, 0, 301, 301, 3, 0, 0, NONE);
        due("19 dart(60)", room.dart(60), 60);
        facts("19 one dart", room, 0, 241, 301, 2, 0, 1, 60);
        due("19 dart(119)", room.dart(119), 10);
        due("19 dart(20)", room.dart(20), 25);
        facts("19 the turn is over", room, 1, 206, 301, 3, 0, 3, 20);
        due("18 a new game", room.game(62, 2, 0), 1);
        facts("18 the old one is gone", room, 0, 62, 62, 2, 0, 0, NONE);
        due("21 none was thrown in it", room.undo(), NO);
        due("19 dart(60)", room.dart(60), 60);
        due("19 0 without a DOUBLE", room.dart(48), -1002);
        facts("19 BUST", room, 1, 62, 62, 2, 0, 2, 48);
        due("19 dart(40)", room.dart(40), 20);
        due("19 dart(41)", room.dart(41), 1);
        due("19 1 would be left", room.dart(60), 60);
        due("19 1 would be left", room.dart(41), -1001);
        facts("19 BUST by 1", room, 1, 62, 41, 2, 0, 6, 41);
        due("19 more than is left", room.dart(0), -1050);
        facts("19 BUST by more", room, 0, 62, 41, 2, 0, 7, 0);
        endOfGame(room);
        for (int what : new int[] {-1, 7, LOW, HIGH}) {
            due("20 about(" + what + ")", room.about(what), BAD);
        }
        for (int aim : new int[] {-2, 120, LOW, HIGH}) {
            due("19 dart(" + aim + ")", room.dart(aim), BAD);
        }
    }

    private static void endOfGame(DartRoom room) {
        room.game(41, 3, 5);
        due("19 dart(41)", room.dart(41), 1);
        due("19 the end", room.dart(100), 40);
        facts("20 over", room, 0, 0, 41, 1, 1, 2, 100);
        long before = room.digest();
        due("19 no GAME goes", room.dart(0), NO);
        due("19 no GAME goes for the plan's aim", room.dart(NONE), NO);
        due("19 BAD comes first", room.dart(-2), BAD);
        due("19 refused changes nothing", room.digest(), before);
        due("21 the end is taken back", room.undo(), 1);
        facts("21 not over", room, 0, 40, 41, 2, 0, 1, 41);
        due("19 it goes on", room.dart(110), 6);
        due("19 by the plan's aim", room.dart(NONE), 34);
        facts("19 over by the last dart of the turn", room, 0, 0, 41, 0, 1, 3, 109);
    }

    private static void plannedDarts() {
        DartRoom room = new DartRoom();
        room.rules(0);
        room.game(3, 1, 9);
        due("19 dart(48)", room.dart(48), 2);
        due("3 rules(1)", room.rules(1), 0);
        due("19 the other's aim for 3", room.dart(NONE), 1);
        long before = room.digest();
        due("19 no aim for 1 by DOUBLE", room.dart(NONE), NO);
        due("19 refused changes nothing", room.digest(), before);
        due("19 beyond the board 1 is left still", room.cloud(1, 0, 1), 0);
        due("19 only beyond", room.cloud(0, 0, 0), 1);
        due("19 BUST with 0", room.dart(103), -1000);
        facts("19 BUST with 0", room, 1, 1, 2, 1, 0, 3, 123);
    }

    /** The draws by long arithmetic, the weights told apart by the sector in which the dart lands. */
    private static void draws() {
        DartRoom room = clouded(0, -2, 3, 0, -1, 1, 0, 0, 2, 0, 1, 5, 0, 2, 4);
        int[] steps = {-2, -2, -2, -1, 0, 0, 1, 1, 1, 1, 1, 2, 2, 2, 2};
        for (int seed : new int[] {0, 1, 77, 65536, HIGH}) {
            due("18 game", room.game(301, 3, seed), 1);
            long x = seed;
            for (int i = 0; i < 12; i++) {
                x = (x * 1103515245L + 12345L) & ((1L << 31) - 1);
                int bed = 40 + Math.floorMod(1 + steps[(int) (x / 65536 % 15)], 20);
                due("19 a refused dart draws nothing", room.dart(-7), BAD);
                due("19 drawn dart", room.dart(41), FIRST[bed - 40]);
                due("20 drawn bed", room.about(6), bed);
                if (i % 3 == 0) {
                    due("21 undo", room.undo(), i);
                    due("21 the draw, too", room.dart(41), FIRST[bed - 40]);
                    due("21 the same bed", room.about(6), bed);
                }
            }
        }
        DartRoom rings = clouded(-2, 0, 1, 2, 0, 1);
        rings.game(301, 1, 4);
        for (int i = 0; i < 10; i++) {
            due("19 dr comes before ds", rings.dart(3), drawnRing(4, i) == 0 ? FIRST[13] : FIRST[3]);
        }
    }

    private static long drawnRing(int seed, int darts) {
        long x = seed;
        for (int i = 0; i <= darts; i++) {
            x = (x * 1103515245L + 12345L) & ((1L << 31) - 1);
        }
        return x / 65536 % 2;
    }

    private static void undo() {
        DartRoom room = new DartRoom();
        room.game(100, 3, 1);
        long[] digests = new long[40];
        int[] aims = {40, 60, 41, 62, 60, 100, 0, 20, 119, 50, 61, 70, 44};
        for (int i = 0; i < 40; i++) {
            digests[i] = room.digest();
            room.dart(room.about(1 + room.about(0)) > 60 ? aims[i % aims.length] : 60);
            due("20 darts thrown", room.about(5), i + 1);
        }
        due("4 swap in between", room.swap(1, 1), 1);
        for (int i = 39; i >= 0; i--) {
            due("21 undo()", room.undo(), i);
            due("21 all is as it was", room.digest(), digests[i]);
        }
        due("21 no more", room.undo(), NO);
        due("21 refused changes nothing", room.digest(), digests[0]);
        DartRoom long1 = new DartRoom();
        long1.game(2, 1, 0);
        for (int i = 0; i < 255; i++) {
            due("19 many darts", long1.dart(0), -1050);
        }
        for (int i = 254; i >= 0; i--) {
            due("21 many undos", long1.undo(), i);
        }
    }

    private static void undoKeepsTheRest() {
        DartRoom room = new DartRoom();
        room.game(50, 2, 3);
        room.dart(41);
        room.swap(0, 1);
        room.cloud(0, 1, 9);
        room.rules(0);
        due("21 undo()", room.undo(), 0);
        due("21 the swap stays", room.value(0), 1);
        due("21 the cloud stays", room.cloud(0, 1, 9), 9);
        due("21 the rules stay", room.rules(0), 0);
    }

    private static void digest() {
        DartRoom room = new DartRoom();
        long h = 151;
        for (int v : FIRST) {
            h = 31 * h + v;
        }
        for (int step = 0; step < 25; step++) {
            h = 31 * h + (step == 12 ? 1 : 0);
        }
        h = ((31 * h + 1) * 31 + 1) * 31 + 198;
        due("22 digest()", room.digest(), h);
        room.game(40, 2, 0);
        for (int v : new int[] {0, 40, 40, 2, 0, 0, -1}) {
            h = 31 * h + v;
        }
        due("22 with a GAME", room.digest(), h);
        long[] seen = new long[6];
        seen[0] = room.digest();
        room.rules(0);
        seen[1] = room.digest();
        room.cloud(-2, 2, 1);
        seen[2] = room.digest();
        room.swap(2, 9);
        seen[3] = room.digest();
        room.dart(60);
        seen[4] = room.digest();
        room.game(39, 2, 0);
        seen[5] = room.digest();
        for (int i = 1; i < 6; i++) {
            CHECK.holds("22 it tells change " + i, seen[i] != seen[i - 1]);
        }
    }

    public static void main(String[] args) {
        newObject();
        cloud();
        rules();
        swapAndValue();
        bed();
        lands();
        meanAndBest();
        ways();
        throwsAndAims();
        wins();
        luck();
        games();
        plannedDarts();
        draws();
        undo();
        undoKeepsTheRest();
        digest();
        CHECK.end();
    }
}
