/** Terms 1 and 2 (THE BOARD, THE CLOUD, LANDS, ENDS, BUST) and promises 1 to 9, at their bounds. */
public final class BoardEdgesTest {
    private static final Check CHECK = new Check("BoardEdgesTest");
    private static final int NONE = DartRoom.NONE, BAD = DartRoom.BAD, NO = DartRoom.NO;
    private static final int LOW = Rooms.LOW, HIGH = Rooms.HIGH;

    /** The RING in which a dart from RING r lands, by r and then dr -2 .. 2. */
    private static final int[][] RING = {
        {2, 1, 0, 1, 2}, {1, 0, 1, 2, 3}, {0, 1, 2, 3, 4}, {1, 2, 3, 4, 5}, {2, 3, 4, 5, 6}, {3, 4, 5, 6, 6}
    };
    private static final boolean[][] THROUGH_THE_BULL = {
        {true, true, false, false, false}, {true, false, false, false, false}, new boolean[5], new boolean[5],
        new boolean[5], new boolean[5]
    };

    private static void due(String call, long got, long want) {
        CHECK.due(call, got, want);
    }

    /** 'THE BOARD has SECTORS 0 .. 19' */
    private static void sectors() {
        DartRoom room = new DartRoom();
        due("value(-1)", room.value(-1), BAD);
        due("value(0)", room.value(0), 20);
        due("value(19)", room.value(19), 5);
        due("value(20)", room.value(20), BAD);
        due("bed(2, -1)", room.bed(2, -1), BAD);
        due("bed(2, 0)", room.bed(2, 0), 20);
        due("bed(2, 19)", room.bed(2, 19), 5);
        due("bed(2, 20)", room.bed(2, 20), BAD);
        due("lands(40, 2, -1)", room.lands(40, 2, -1), BAD);
        due("lands(40, 2, 0)", room.lands(40, 2, 0), 1);
        due("lands(59, 2, 19)", room.lands(59, 2, 19), 1);
        due("lands(59, 2, 20)", room.lands(59, 2, 20), BAD);
        due("swap(-1, 0)", room.swap(-1, 0), BAD);
        due("swap(0, -1)", room.swap(0, -1), BAD);
        due("swap(20, 19)", room.swap(20, 19), BAD);
        due("swap(19, 20)", room.swap(19, 20), BAD);
        due("swap(0, 19)", room.swap(0, 19), 1);
        due("value(0) behind it", room.value(0), 5);
        due("value(19) behind it", room.value(19), 20);
        due("swap(19, 0)", room.swap(19, 0), 1);
        due("value(0) is back", room.value(0), 20);
        due("value(19) is back", room.value(19), 5);
    }

    /** 'at first 20, 1, 18 ..': and a swap of each pair moves these two values and no other. */
    private static void swapsMoveTwoValues() {
        for (int s = 0; s < 20; s++) {
            DartRoom room = new DartRoom();
            for (int t = 0; t < 20; t++) {
                due("4 swap(" + s + ", " + t + ")", room.swap(s, t), 1);
                for (int u = 0; u < 20; u++) {
                    int from = u == s ? t : u == t ? s : u;
                    due("4 value(" + u + ") behind swap(" + s + ", " + t + ")", room.value(u), Rooms.FIRST[from]);
                }
                due("4 taken back", room.swap(t, s), 1);
            }
        }
    }

    /** 'RINGS: 0 BULL (50, DOUBLE) .. 6 beyond (0)'; 'BAD: RING 0 .. 6' */
    private static void rings() {
        DartRoom room = new DartRoom();
        due("bed(-1, 0)", room.bed(-1, 0), BAD);
        due("bed(7, 0)", room.bed(7, 0), BAD);
        due("bed(-1, 19)", room.bed(-1, 19), BAD);
        due("bed(7, 19)", room.bed(7, 19), BAD);
        due("lands(0, -1, 0)", room.lands(0, -1, 0), BAD);
        due("lands(0, 0, 0)", room.lands(0, 0, 0), 1);
        due("lands(119, 6, 0)", room.lands(119, 6, 0), 0);
        due("lands(119, 7, 0)", room.lands(119, 7, 0), BAD);
        for (int s = 0; s < 20; s++) {
            for (int r = 0; r <= 6; r++) {
                due("6 bed(" + r + ", " + s + ")", room.bed(r, s), Rooms.counts(r, s));
            }
        }
        room.swap(0, 1);
        due("6 RING 0 has no value of a SECTOR", room.bed(0, 0), 50);
        due("6 RING 1 has none", room.bed(1, 1), 25);
        due("6 RING 3 has", room.bed(3, 0), 3);
        due("6 RING 5 has", room.bed(5, 1), 40);
        due("6 RING 6 counts 0 still", room.bed(6, 1), 0);
    }

    /** 'DOUBLE': the RINGS 0 and 5, and no other. */
    private static void doubleRings() {
        int[] aims = {0, 20, 52, 72, 92, 112};
        boolean[] ends = {true, false, false, false, false, true};
        for (int r = 0; r < 6; r++) {
            int left = Rooms.counts(r, aims[r] % 20);
            DartRoom room = new DartRoom();
            room.game(left, 1, 0);
            due("RING " + r + " by DOUBLE", room.dart(aims[r]), ends[r] ? left : -1000 - left);
            due("RING " + r + " is the end", room.about(4), ends[r] ? 1 : 0);
            room.rules(0);
            room.game(left, 1, 0);
            due("RING " + r + " by STRAIGHT", room.dart(aims[r]), left);
            due("RING " + r + " is the end by STRAIGHT", room.about(4), 1);
        }
    }

    /** 'of RINGS 0, 1, 6 all SECTORS' are one' */
    private static void bedsOfAllSectors() {
        DartRoom room = Rooms.clouded(-1, -2, 1, 0, 1, 2, 1, 2, 4);
        for (int s = 0; s < 20; s++) {
            due("7 all of RING 0, from SECTOR 3", room.lands(3, 0, s), 2);
            due("7 all of RING 1, from SECTOR 3", room.lands(3, 1, s), 5);
            due("7 all of RING 6, from SECTOR 3", room.lands(103, 6, s), 4);
            due("7 RING 2 is of SECTORS", room.lands(43, 2, s), s == 4 ? 2 : 0);
            due("7 RING 3 is of SECTORS", room.lands(43, 3, s), s == 5 ? 4 : 0);
            due("7 RING 4 is of SECTORS", room.lands(103, 4, s), s == 1 ? 1 : 0);
            due("7 RING 5 is of SECTORS", room.lands(103, 5, s), s == 4 ? 2 : 0);
        }
    }

    /** 'weights (0 .. 200) for steps dr -2 .. 2, ds -2 .. 2; 1 for 0, 0, else 0, at first' */
    private static void weights() {
        for (int step = 0; step < 25; step++) {
            int dr = step / 5 - 2;
            int ds = step % 5 - 2;
            int first = step == 12 ? 1 : 0;
            DartRoom room = new DartRoom();
            String at = "2 cloud(" + dr + ", " + ds + ")";
            due(at + " below 0", room.cloud(dr, ds, -1), BAD);
            due(at + " above 200", room.cloud(dr, ds, 201), BAD);
            due(at + " was as at first", room.cloud(dr, ds, 200), first);
            due(at + " was 200", room.cloud(dr, ds, 1), 200);
            due(at + " was 1", room.cloud(dr, ds, 199), 1);
            due(at + " above 200 again", room.cloud(dr, ds, 201), BAD);
            due(at + " was 199", room.cloud(dr, ds, 0), step == 12 ? NO : 199);
            due(at + " is 0, or stays", room.cloud(dr, ds, 1), step == 12 ? 199 : 0);
        }
    }

    private static void stepsBeyond() {
        DartRoom room = new DartRoom();
        for (int in = -2; in <= 2; in++) {
            for (int out : new int[] {-3, 3, LOW, HIGH}) {
                due("2 cloud(" + out + ", " + in + ", 1)", room.cloud(out, in, 1), BAD);
                due("2 cloud(" + in + ", " + out + ", 1)", room.cloud(in, out, 1), BAD);
            }
        }
        for (int step = 0; step < 25; step++) {
            int first = step == 12 ? 1 : 0;
            due("2 no other weight was moved", room.cloud(step / 5 - 2, step % 5 - 2, first), first);
        }
    }

    /** 'their sum is W, at least 1'; 'NO: W would be 0'; 'the first of: BAD; NO' */
    private static void leastSum() {
        for (int step = 0; step < 25; step++) {
            int dr = step / 5 - 2;
            int ds = step % 5 - 2;
            DartRoom room = Rooms.clouded(dr, ds, 1);
            String at = "2 the only weight at " + dr + ", " + ds;
            due(at + " may not go", room.cloud(dr, ds, 0), NO);
            due(at + " BAD is first", room.cloud(dr, ds, -1), BAD);
            due(at + " BAD is first, far below", room.cloud(dr, ds, LOW), BAD);
            due(at + " is there", room.cloud(dr, ds, 200), 1);
            due(at + " may not go when it is great", room.cloud(dr, ds, 0), NO);
            due(at + " a step beyond is BAD", room.cloud(dr + 5, ds, 0), BAD);
            due(at + " may be less", room.cloud(dr, ds, 1), 200);
            int other = (step + 1) % 25;
            due(at + " another one that is 0 may be 0", room.cloud(other / 5 - 2, other % 5 - 2, 0), 0);
            due(at + " another one", room.cloud(other / 5 - 2, other % 5 - 2, 1), 0);
            due(at + " may go now", room.cloud(dr, ds, 0), 1);
            due(at + " the other one may not", room.cloud(other / 5 - 2, other % 5 - 2, 0), NO);
        }
    }

    /** W goes up to 5000: all darts of the BULL then land in RINGS 0, 1 and 2. */
    private static void greatestSum() {
        DartRoom room = new DartRoom();
        Rooms.putFullCloud(room);
        due("7 RING 0", room.lands(0, 0, 0), 1000);
        due("7 RING 1", room.lands(0, 1, 0), 2000);
        int sum = 0;
        for (int s = 0; s < 20; s++) {
            sum += room.lands(0, 2, s);
        }
        due("7 RING 2", sum, 2000);
        due("7 RING 2, the SECTOR before the last that is reached", room.lands(0, 2, 2), 200);
        due("7 RING 2, one further", room.lands(0, 2, 3), 0);
        due("7 RING 2, on the other side", room.lands(0, 2, 8), 200);
        due("7 RING 2, one further there", room.lands(0, 2, 7), 0);
        // Values of sectors 18, 19, 0, 1, 2 and of 8 to 12.
        int near = 12 + 5 + 20 + 1 + 18;
        int far = 2 + 17 + 3 + 19 + 7;
        due("8 mean(0)", room.mean(0), 1000 * 50 + 2000 * 25 + 200 * (near + far));
        due("8 mean(119) beyond for two RINGS", room.mean(119), 200 * (3 + 1 + 2) * (9 + 12 + 5 + 20 + 1));
    }

    /** 'AN AIM is RING r (0 .. 5) and SECTOR s, numbered 20 r + s' */
    private static void aims() {
        DartRoom room = new DartRoom();
        due("8 mean(-1)", room.mean(-1), BAD);
        due("8 mean(120)", room.mean(120), BAD);
        due("7 lands(-1, 0, 0)", room.lands(-1, 0, 0), BAD);
        due("7 lands(120, 6, 0)", room.lands(120, 6, 0), BAD);
        for (int aim = 0; aim < 120; aim++) {
            due("8 mean(" + aim + ")", room.mean(aim), Rooms.counts(aim / 20, aim % 20));
            due("7 lands(" + aim + ")", room.lands(aim, aim / 20, aim % 20), 1);
        }
        room.game(301, 1, 0);
        due("19 dart(-2)", room.dart(-2), BAD);
        due("19 dart(120)", room.dart(120), BAD);
        due("19 dart(0)", room.dart(0), 50);
        due("19 dart(119)", room.dart(119), 10);
        due("19 dart(-1), the AIM of THROWS of 251", room.dart(NONE), room.mean(room.aimOf(251)));
    }

    /** One SECTOR on, or back, as the hand goes round. */
    private static int stepped(int sector, int by) {
        int at = sector;
        for (int i = 0; i < Math.abs(by); i++) {
            at = by > 0 ? (at == 19 ? 0 : at + 1) : (at == 0 ? 19 : at - 1);
        }
        return at;
    }

    /** 'RING r + dr, SECTOR s + ds round the BOARD; below 0: RING its size, ten SECTORS on; above 6: 6' */
    private static void landsByEachStep() {
        for (int step = 0; step < 25; step++) {
            int dr = step / 5 - 2;
            int ds = step % 5 - 2;
            DartRoom room = Rooms.clouded(dr, ds, 3);
            DartRoom thrown = Rooms.clouded(dr, ds, 3);
            for (int aim = 0; aim < 120; aim++) {
                int ring = RING[aim / 20][dr + 2];
                int sector = stepped(stepped(aim % 20, ds), THROUGH_THE_BULL[aim / 20][dr + 2] ? 10 : 0);
                boolean whole = ring == 0 || ring == 1 || ring == 6;
                String from = "aim " + aim + " by " + dr + ", " + ds;
                due("7 " + from, room.lands(aim, ring, sector), 3);
                due("7 a SECTOR off, " + from, room.lands(aim, ring, stepped(sector, 1)), whole ? 3 : 0);
                due("7 a RING off, " + from, room.lands(aim, ring == 6 ? 5 : ring + 1, sector), 0);
                due("8 " + from, room.mean(aim), 3 * Rooms.counts(ring, sector));
                thrown.game(301, 1, aim);
                due("19 " + from, thrown.dart(aim), Rooms.counts(ring, sector));
                due("20 " + from, thrown.about(6), 20 * ring + sector);
            }
        }
    }

    /** The same by hand, at the edges alone. */
    private static void landsByHand() {
        due("7 RING 0 - 1 is 1", Rooms.clouded(-1, 0, 1).lands(0, 1, 7), 1);
        due("7 RING 0 - 2 is 2, ten on", Rooms.clouded(-2, 0, 1).lands(0, 2, 10), 1);
        due("7 RING 0 - 2 is 2, ten on from 9", Rooms.clouded(-2, 0, 1).lands(9, 2, 19), 1);
        due("7 RING 0 - 2 is 2, ten on from 10 is 0", Rooms.clouded(-2, 0, 1).lands(10, 2, 0), 1);
        due("7 RING 0 - 2, 19 + 2 and ten on", Rooms.clouded(-2, 2, 1).lands(19, 2, 11), 1);
        due("7 RING 0 - 2, 0 - 2 and ten on", Rooms.clouded(-2, -2, 1).lands(0, 2, 8), 1);
        due("7 RING 0 - 2, 12 - 2 and ten on is 0", Rooms.clouded(-2, -2, 1).lands(12, 2, 0), 1);
        due("7 RING 2 - 2 is the BULL itself", Rooms.clouded(-2, 0, 1).lands(40, 0, 0), 1);
        due("7 RING 1 - 1 is the BULL itself", Rooms.clouded(-1, 0, 1).lands(20, 0, 0), 1);
        due("7 RING 1 - 2 is 1", Rooms.clouded(-2, 0, 1).lands(20, 1, 0), 1);
        due("7 RING 4 + 2 is 6", Rooms.clouded(2, 0, 1).lands(80, 6, 0), 1);
        due("7 RING 5 + 1 is 6", Rooms.clouded(1, 0, 1).lands(100, 6, 0), 1);
        due("7 RING 5 + 2 is 6", Rooms.clouded(2, 0, 1).lands(100, 6, 0), 1);
        due("7 RING 3 + 2 is 5", Rooms.clouded(2, 0, 1).lands(60, 5, 0), 1);
        due("7 SECTOR 19 + 1 is 0", Rooms.clouded(0, 1, 1).lands(59, 2, 0), 1);
        due("7 SECTOR 18 + 2 is 0", Rooms.clouded(0, 2, 1).lands(58, 2, 0), 1);
        due("7 SECTOR 19 + 2 is 1", Rooms.clouded(0, 2, 1).lands(59, 2, 1), 1);
        due("7 SECTOR 0 - 1 is 19", Rooms.clouded(0, -1, 1).lands(40, 2, 19), 1);
        due("7 SECTOR 1 - 2 is 19", Rooms.clouded(0, -2, 1).lands(41, 2, 19), 1);
        due("7 SECTOR 0 - 2 is 18", Rooms.clouded(0, -2, 1).lands(40, 2, 18), 1);
        due("7 SECTOR 17 + 2 is 19", Rooms.clouded(0, 2, 1).lands(57, 2, 19), 1);
        due("7 SECTOR 2 - 2 is 0", Rooms.clouded(0, -2, 1).lands(42, 2, 0), 1);
    }

    /** 'The first AIM with the greatest mean': the first and the last that can be, and like ones. */
    private static void best() {
        due("9 the first of all", Rooms.clouded(0, -2, 1, 0, 2, 1, 0, -1, 1, 0, 1, 1).best(), 0);
        DartRoom last = new DartRoom();
        last.swap(0, 19);
        Rooms.putCloud(last, -2, 0, 1);
        due("9 the last of all", last.best(), 119);
        due("9 its mean", last.mean(119), 60);
        DartRoom first = new DartRoom();
        due("9 the first SECTOR of RING 3", first.best(), 60);
        first.swap(0, 19);
        due("9 the last SECTOR of RING 3", first.best(), 79);
        DartRoom like = Rooms.clouded(0, 0, 1, -1, 0, 1);
        due("9 RINGS 3 and 2", like.mean(60), 80);
        due("9 RINGS 4 and 3 are like them", like.mean(80), 80);
        due("9 the first of like ones", like.best(), 60);
        like.cloud(0, 0, 200);
        due("9 the lower RING by a greater weight", like.best(), 60);
        like.cloud(-1, 0, 199);
        due("9 by the least more", like.best(), 60);
        like.cloud(0, 0, 198);
        due("9 by the least less", like.best(), 80);
        DartRoom outward = Rooms.clouded(2, 0, 1);
        due("9 RING 1 lands in 3", outward.best(), 20);
        due("9 a mean of 0", outward.mean(80), 0);
    }

    /** 'RULES: 0 STRAIGHT, 1 DOUBLE (at first)' */
    private static void rules() {
        DartRoom room = new DartRoom();
        due("3 rules(-1)", room.rules(-1), BAD);
        due("3 rules(2)", room.rules(2), BAD);
        due("3 DOUBLE at first", room.rules(1), 1);
        due("3 DOUBLE still", room.rules(0), 1);
        due("3 rules(2)", room.rules(2), BAD);
        due("3 rules(-1)", room.rules(-1), BAD);
        due("3 STRAIGHT", room.rules(0), 0);
        due("3 STRAIGHT still", room.rules(1), 0);
        due("3 DOUBLE", room.rules(1), 1);
    }

    /** ENDS and BUST of each number up to 62 and each bed, by both rules. */
    private static void endsAndBust() {
        for (int rule = 0; rule <= 1; rule++) {
            for (int n = 2; n <= 62; n++) {
                DartRoom room = new DartRoom();
                room.rules(rule);
                for (int aim = 0; aim < 120; aim++) {
                    room.game(n, 1, aim);
                    int v = Rooms.counts(aim / 20, aim % 20);
                    boolean ends = v == n && (rule == 0 || aim < 20 || aim >= 100);
                    boolean bust = v > n || (rule == 1 && (n - v == 1 || (v == n && !ends)));
                    String call = "19 rules " + rule + ", " + n + " left, dart(" + aim + ")";
                    due(call, room.dart(aim), bust ? -1000 - v : v);
                    due(call + " LEFT", room.about(1), bust ? n : n - v);
                    due(call + " over", room.about(4), ends ? 1 : 0);
                }
            }
        }
    }

    private static void ended(String what, int rule, int n, int aim, int answer, int left) {
        DartRoom room = new DartRoom();
        room.rules(rule);
        room.game(n, 3, 0);
        due(what, room.dart(aim), answer);
        due(what + ", LEFT", room.about(1), left);
        due(what + ", over", room.about(4), left == 0 ? 1 : 0);
        due(what + ", to throw", room.about(0), answer < 0 ? 1 : 0);
    }

    /** The same by hand, one below, at, and one above. */
    private static void endsAndBustByHand() {
        ended("v one above n by STRAIGHT", 0, 19, 40, -1020, 19);
        ended("v is n by STRAIGHT", 0, 20, 40, 20, 0);
        ended("v one below n by STRAIGHT", 0, 21, 40, 20, 1);
        ended("v two below n by STRAIGHT", 0, 22, 40, 20, 2);
        ended("v one above n by DOUBLE", 1, 39, 100, -1040, 39);
        ended("v is n by DOUBLE", 1, 40, 100, 40, 0);
        ended("v one below n by DOUBLE", 1, 41, 100, -1040, 41);
        ended("v two below n by DOUBLE", 1, 42, 100, 40, 2);
        ended("v is n without a DOUBLE", 1, 20, 40, -1020, 20);
        ended("v one above n without a DOUBLE", 1, 19, 40, -1020, 19);
        ended("v one below n without a DOUBLE", 1, 21, 40, -1020, 21);
        ended("v two below n without a DOUBLE", 1, 22, 40, 20, 2);
        ended("v is n by the BULL", 1, 50, 7, 50, 0);
        ended("v one below n by the BULL", 1, 51, 7, -1050, 51);
        ended("v one above n by the BULL", 1, 49, 7, -1050, 49);
        ended("25 is n", 1, 25, 20, -1025, 25);
        ended("25 is n by STRAIGHT", 0, 25, 20, 25, 0);
        ended("the least end by DOUBLE", 1, 2, 101, 2, 0);
        ended("the greatest LEFT", 1, 301, 60, 60, 241);
    }

    /** LEFT 1: reached by STRAIGHT, and by DOUBLE none of it can be ended. */
    private static void oneLeft() {
        DartRoom room = new DartRoom();
        room.rules(0);
        room.game(2, 1, 0);
        due("1 is left by STRAIGHT", room.dart(41), 1);
        due("1 is left of both", room.dart(41), 1);
        due("v one above 1", room.dart(48), -1002);
        due("the other one ends 1", room.dart(41), 1);
        due("it is over", room.about(4), 1);
        due("taken back", room.undo(), 3);
        room.rules(1);
        due("0 without a DOUBLE", room.dart(41), -1001);
        due("v above 1, by a DOUBLE", room.dart(101), -1002);
        due("1 is left still", room.about(1) + room.about(2), 2);
        room.cloud(2, 0, 1);
        room.cloud(0, 0, 0);
        due("1 - 0 is 1: BUST by DOUBLE", room.dart(100), -1000);
        due("the turn is over", room.about(0), 0);
        room.rules(0);
        due("1 - 0 is 1: LEFT by STRAIGHT", room.dart(100), 0);
        due("1 is left", room.about(1), 1);
    }

    public static void main(String[] args) {
        sectors();
        swapsMoveTwoValues();
        rings();
        doubleRings();
        bedsOfAllSectors();
        weights();
        stepsBeyond();
        leastSum();
        greatestSum();
        aims();
        landsByEachStep();
        landsByHand();
        best();
        rules();
        endsAndBust();
        endsAndBustByHand();
        oneLeft();
        CHECK.end();
    }
}
