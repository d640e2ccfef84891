/** Terms 2 (LEFT, WAYS, THROWS, WINS), LUCK, and promises 10 to 17, at their bounds. */
public final class PlanEdgesTest {
    private static final Check CHECK = new Check("PlanEdgesTest");
    private static final int NONE = DartRoom.NONE, BAD = DartRoom.BAD;
    private static final int LOW = Rooms.LOW, HIGH = Rooms.HIGH;

    private static void due(String call, long got, long want) {
        CHECK.due(call, got, want);
    }

    private static DartRoom straight(int... steps) {
        DartRoom room = steps.length == 0 ? new DartRoom() : Rooms.clouded(steps);
        room.rules(0);
        return room;
    }

    /** 'LEFT is a number 1 .. 301' */
    private static void left() {
        for (int rule = 0; rule <= 1; rule++) {
            DartRoom room = new DartRoom();
            room.rules(rule);
            for (int n : new int[] {0, 302, -1, LOW, HIGH}) {
                for (int d = 0; d <= 4; d++) {
                    due("10 ways(" + n + ", " + d + ")", room.ways(n, d), BAD);
                    due("11 wayAim(" + n + ", " + d + ")", room.wayAim(n, d), BAD);
                }
                due("13 throwsOf(" + n + ")", room.throwsOf(n), BAD);
                due("14 aimOf(" + n + ")", room.aimOf(n), BAD);
            }
            boolean ended = rule == 0;
            due("10 ways(1, 1)", room.ways(1, 1), ended ? 1 : 0);
            due("11 wayAim(1, 1)", room.wayAim(1, 1), ended ? 41 : NONE);
            due("10 ways(1, 3)", room.ways(1, 3), ended ? 1 : 0);
            due("13 throwsOf(1)", room.throwsOf(1), ended ? Rooms.bits(1.0) : NONE);
            due("14 aimOf(1)", room.aimOf(1), ended ? 41 : NONE);
            due("10 ways(301, 1)", room.ways(301, 1), 0);
            due("10 ways(301, 3)", room.ways(301, 3), 0);
            due("11 wayAim(301, 3)", room.wayAim(301, 3), NONE);
            due("13 throwsOf(301)", room.throwsOf(301), Rooms.bits(6.0));
        }
    }

    /** 'd (1 .. 3) darts' */
    private static void darts() {
        DartRoom room = new DartRoom();
        for (int n : new int[] {1, 2, 40, 301}) {
            for (int d : new int[] {0, 4, -1, LOW, HIGH}) {
                due("10 ways(" + n + ", " + d + ")", room.ways(n, d), BAD);
                due("11 wayAim(" + n + ", " + d + ")", room.wayAim(n, d), BAD);
            }
        }
        for (int d : new int[] {0, 4, -1, LOW, HIGH}) {
            due("12 hopeless(" + d + ")", room.hopeless(d), BAD);
        }
        due("12 hopeless(1)", room.hopeless(1), 159);
        due("12 hopeless(3)", room.hopeless(3), 18);
    }

    private static void reach(DartRoom room, int n, int d, int want) {
        due("10 ways(" + n + ", " + d + ")", room.ways(n, d), want);
        boolean found = room.wayAim(n, d) != NONE;
        due("11 wayAim(" + n + ", " + d + ") is there", found ? 1 : 0, want);
    }

    /** The greatest numbers that one, two and three darts end, and those just beyond. */
    private static void farthest() {
        DartRoom room = new DartRoom();
        reach(room, 40, 1, 1);
        reach(room, 41, 1, 0);
        reach(room, 42, 1, 0);
        reach(room, 49, 1, 0);
        reach(room, 50, 1, 1);
        reach(room, 51, 1, 0);
        reach(room, 110, 2, 1);
        reach(room, 111, 2, 0);
        reach(room, 170, 3, 1);
        reach(room, 171, 3, 0);
        room.rules(0);
        reach(room, 60, 1, 1);
        reach(room, 61, 1, 0);
        reach(room, 120, 2, 1);
        reach(room, 121, 2, 0);
        reach(room, 180, 3, 1);
        reach(room, 181, 3, 0);
        for (int n = 181; n <= 240; n++) {
            due("10 STRAIGHT ways(" + n + ", 3)", room.ways(n, 3), 0);
        }
    }

    /** With no misses a number has a way with one dart just where a bed counts it. */
    private static void oneDart() {
        for (int rule = 0; rule <= 1; rule++) {
            DartRoom room = new DartRoom();
            room.rules(rule);
            for (int n = 1; n <= 120; n++) {
                int first = NONE;
                for (int aim = 119; aim >= 0; aim--) {
                    boolean ends = rule == 0 || aim < 20 || aim >= 100;
                    first = ends && Rooms.counts(aim / 20, aim % 20) == n ? aim : first;
                }
                due("10 ways(" + n + ", 1)", room.ways(n, 1), first == NONE ? 0 : 1);
                due("11 wayAim(" + n + ", 1)", room.wayAim(n, 1), first);
            }
        }
    }

    /** 'behind it all steps count': W to the power d - 1, up to its greatest. */
    private static void powers() {
        DartRoom three = Rooms.clouded(0, 0, 3);
        due("10 one dart", three.ways(2, 1), 3);
        due("10 and one behind it", three.ways(2, 2), 9);
        due("10 and two behind it", three.ways(2, 3), 27);
        due("10 two darts", three.ways(3, 2), 9);
        due("10 two darts and one behind them", three.ways(3, 3), 27);
        due("10 three darts", three.ways(170, 3), 27);
        DartRoom great = straight(-1, -2, 200, -1, -1, 200, -1, 0, 200, -1, 1, 200, -1, 2, 200,
            1, -2, 200, 1, -1, 200, 1, 0, 200, 1, 1, 200, 1, 2, 200);
        due("10 from the BULL all land in RING 1", great.ways(25, 1), 2000);
        due("10 W times W", great.ways(25, 2), 4_000_000L);
        due("10 W times W times W, beyond 32 bits", great.ways(25, 3), 8_000_000_000L);
        due("11 the first AIM for it", great.wayAim(25, 3), 0);
        due("10 two of them", great.ways(50, 2), 4_000_000L);
        due("10 three of them", great.ways(75, 3), 8_000_000_000L);
        due("12 none but 25 and its like", great.ways(1, 1) > 0 ? 1 : 0, 1);
    }

    /** '0 if BUST': what is bust is lost, what lands with 0 is not. */
    private static void bustAndBeyond() {
        DartRoom half = Rooms.clouded(0, 0, 1, 1, 0, 1);
        due("10 one of two ends", half.ways(2, 1), 1);
        due("11 the first of like ones", half.wayAim(2, 1), 81);
        due("10 one ends, one beyond may go on", half.ways(2, 2), 3);
        due("11 no longer the one that is bust", half.wayAim(2, 2), 101);
        due("10 and again", half.ways(2, 3), 7);
        DartRoom straightHalf = straight(0, 0, 1, 1, 0, 1);
        due("10 STRAIGHT: RINGS 4 and 5, 1 ends", straightHalf.ways(1, 1), 1);
        due("10 STRAIGHT: 1 left may go on", straightHalf.ways(2, 2), 3);
        due("11 STRAIGHT: 1 or 2 of RINGS 4 and 5", straightHalf.wayAim(2, 2), 81);
        DartRoom beyond = Rooms.clouded(2, 0, 1);
        due("10 RING 5 is reached from RING 3", beyond.wayAim(2, 1), 61);
        due("10 the BULL is not reached at all", beyond.ways(50, 1), 0);
        due("11 the BULL is not reached at all", beyond.wayAim(50, 1), NONE);
    }

    /** 'How many n of 1 .. 180 have no WAYS with d darts' */
    private static void hopeless() {
        DartRoom room = new DartRoom();
        // 20 doubles and the bull; all to 98, and 100, 101, 104, 107, 110, but not 1.
        due("12 hopeless(1)", room.hopeless(1), 180 - 21);
        due("12 hopeless(2)", room.hopeless(2), 180 - 97 - 5);
        // 1, then 159, 162, 163, 165, 166, 168, 169, and 171 to 180.
        due("12 hopeless(3)", room.hopeless(3), 1 + 7 + 10);
        room.rules(0);
        // 1 to 20, doubles to 40, trebles to 60, 25 and 50: 43 numbers. Of three, 180 is the last.
        due("12 STRAIGHT hopeless(1)", room.hopeless(1), 180 - 43);
        due("12 STRAIGHT hopeless(3)", room.hopeless(3), 9);
        int none = 0;
        for (int n = 1; n <= 180; n++) {
            none += room.ways(n, 2) == 0 ? 1 : 0;
        }
        due("12 STRAIGHT hopeless(2)", room.hopeless(2), none);
        due("12 120 is the last of two", none - 60, notReached(120));
        DartRoom inward = Rooms.clouded(-1, 0, 1);
        due("12 only the BULL ends", inward.hopeless(1), 179);
    }

    /** How many numbers of 1 .. top two beds never count together, nor one alone. */
    private static int notReached(int top) {
        int none = 0;
        for (int n = 1; n <= top; n++) {
            boolean found = false;
            for (int one = 0; one < 140; one++) {
                for (int two = 0; two < 120; two++) {
                    int sum = Rooms.counts(one / 20, one % 20) + Rooms.counts(two / 20, two % 20);
                    found |= sum == n;
                }
            }
            none += found ? 0 : 1;
        }
        return none;
    }

    /** With no misses THROWS are the fewest darts; the greatest numbers for 1 to 5 of them. */
    private static void fewestThrows() {
        int[] byDouble = {50, 110, 170, 230, 290};
        int[] byStraight = {60, 120, 180, 240, 300};
        DartRoom room = new DartRoom();
        DartRoom plain = straight();
        for (int darts = 1; darts <= 5; darts++) {
            String at = "13 the greatest of " + darts + " darts";
            due(at, room.throwsOf(byDouble[darts - 1]), Rooms.bits(darts));
            due(at + " and one", room.throwsOf(byDouble[darts - 1] + 1), Rooms.bits(darts + 1));
            due(at + " STRAIGHT", plain.throwsOf(byStraight[darts - 1]), Rooms.bits(darts));
            due(at + " STRAIGHT and one", plain.throwsOf(byStraight[darts - 1] + 1), Rooms.bits(darts + 1));
        }
        due("14 the AIM for 2", room.aimOf(2), 101);
        due("14 the first of like ones for 4", room.aimOf(4), 108);
        due("14 the AIM for 3 is a 1", room.aimOf(3), 41);
        due("14 STRAIGHT, the first of like ones for 2", plain.aimOf(2), 48);
        due("14 STRAIGHT, the first of like ones for 50", plain.aimOf(50), 0);
        due("14 STRAIGHT, the first of like ones for 18", plain.aimOf(18), 42);
        due("14 the greatest of all", room.aimOf(290), 60);
    }

    /** 'AIMS with S being W .. are left out; if there is none else n has none' */
    private static void noneOfThrows() {
        DartRoom room = new DartRoom();
        due("13 1 by DOUBLE", room.throwsOf(1), NONE);
        due("14 1 by DOUBLE", room.aimOf(1), NONE);
        Rooms.putFullCloud(room);
        due("13 1 by DOUBLE, the full cloud", room.throwsOf(1), NONE);
        due("14 1 by DOUBLE, the full cloud", room.aimOf(1), NONE);
        DartRoom inward = Rooms.clouded(-1, 0, 200);
        for (int n = 1; n <= 49; n++) {
            due("13 only the BULL ends, " + n, inward.throwsOf(n), NONE);
            due("14 only the BULL ends, " + n, inward.aimOf(n), NONE);
        }
        due("13 the BULL", inward.throwsOf(50), Rooms.bits(1.0));
        due("14 the BULL", inward.aimOf(50), 20);
        due("13 1 and the BULL", inward.throwsOf(51), Rooms.bits(2.0));
        due("14 1 and the BULL", inward.aimOf(51), 61);
        due("13 a 25 (from the BULL) and the BULL", inward.throwsOf(75), Rooms.bits(2.0));
        due("14 a 25 (from the BULL) and the BULL", inward.aimOf(75), 0);
    }

    /** '.. or with a step (of a weight above 0) to a LEFT that has none, are left out' */
    private static void stepsToNone() {
        DartRoom room = Rooms.clouded(-1, 0, 1);
        due("13 51 by a 1", room.throwsOf(51), Rooms.bits(2.0));
        // Beside the 1 stand 18 and 20: 33 or 31 would be left, which have none.
        room.cloud(-1, 1, 1);
        due("13 50 is sure still", room.throwsOf(50), Rooms.bits(1.0));
        due("13 51 has none", room.throwsOf(51), NONE);
        due("14 51 has none", room.aimOf(51), NONE);
        due("15 so has who throws with 51", room.wins(51, 50), NONE);
        due("15 and who waits with it", room.wins(50, 51), NONE);
        due("13 75 by a 25 is sure", room.throwsOf(75), Rooms.bits(2.0));
        room.cloud(-1, 1, 0);
        due("13 a weight of 0 is no step", room.throwsOf(51), Rooms.bits(2.0));
        due("14 a weight of 0 is no step", room.aimOf(51), 61);
    }

    /** 'S the weights of steps that are BUST or LAND with 0' */
    private static void lostWeights() {
        DartRoom half = Rooms.clouded(0, 0, 1, 1, 0, 1);
        due("13 one of two is BUST, or beyond", half.throwsOf(2), Rooms.bits(2.0));
        due("14 the first of like ones", half.aimOf(2), 81);
        due("13 2 left, or the end", half.throwsOf(4), Rooms.bits((2.0 + 2.0) / 2.0));
        due("14 the first of like ones", half.aimOf(4), 88);
        DartRoom rare = Rooms.clouded(0, 0, 1, -1, 0, 199);
        due("13 one of 200 ends, 199 are BUST", rare.throwsOf(2), Rooms.bits(200.0));
        due("14 one of 200 ends", rare.aimOf(2), 101);
        for (int ds = -2; ds <= 2; ds++) {
            rare.cloud(-1, ds, 200);
            rare.cloud(-2, ds, 200);
        }
        due("13 one of 2001 ends", rare.throwsOf(2), Rooms.bits(2001.0));
        due("14 one of 2001 ends", rare.aimOf(2), 101);
        DartRoom often = Rooms.clouded(0, 0, 1, 2, 0, 199);
        due("13 199 of 200 end", often.throwsOf(2), Rooms.bits(200.0 / 199.0));
        due("14 two RINGS before it", often.aimOf(2), 61);
        DartRoom even = Rooms.clouded(0, 0, 100, 1, 0, 100, 2, 0, 100);
        due("13 one of three ends, as from each RING", even.throwsOf(2), Rooms.bits(3.0));
        due("14 the first of like ones", even.aimOf(2), 61);
    }

    /** 'WINS of a, b (1 .. 80 each)' and 'None, if a or b has no THROWS' */
    private static void winsBounds() {
        DartRoom room = new DartRoom();
        for (int in : new int[] {1, 2, 80}) {
            for (int out : new int[] {0, 81, -1, LOW, HIGH}) {
                due("15 wins(" + in + ", " + out + ")", room.wins(in, out), BAD);
                due("15 wins(" + out + ", " + in + ")", room.wins(out, in), BAD);
            }
        }
        due("15 wins(1, 1)", room.wins(1, 1), NONE);
        due("15 wins(1, 80)", room.wins(1, 80), NONE);
        due("15 wins(80, 1)", room.wins(80, 1), NONE);
        due("15 wins(80, 80)", room.wins(80, 80), Rooms.bits(1.0));
        room.rules(0);
        due("15 STRAIGHT wins(1, 1)", room.wins(1, 1), Rooms.bits(1.0));
        due("15 STRAIGHT wins(1, 80)", room.wins(1, 80), Rooms.bits(1.0));
        due("15 STRAIGHT wins(80, 1)", room.wins(80, 1), Rooms.bits(0.0));
        due("15 STRAIGHT wins(80, 80)", room.wins(80, 80), Rooms.bits(1.0));
        DartRoom inward = Rooms.clouded(-1, 0, 1);
        due("15 49 has no THROWS", inward.wins(49, 50), NONE);
        due("15 50 against 49", inward.wins(50, 49), NONE);
        due("15 50 against 50", inward.wins(50, 50), Rooms.bits(1.0));
    }

    /** With no misses who needs no more darts wins: one for a double, two for all else to 80. */
    private static void winsWithoutMisses() {
        for (int a = 2; a <= 80; a++) {
            DartRoom room = new DartRoom();
            for (int b = 2; b <= 80; b++) {
                boolean sooner = dartsFor(a) <= dartsFor(b);
                due("15 wins(" + a + ", " + b + ")", room.wins(a, b), Rooms.bits(sooner ? 1.0 : 0.0));
            }
        }
    }

    private static int dartsFor(int n) {
        return n == 50 || (n <= 40 && n % 2 == 0) ? 1 : 2;
    }

    /** On paper: from 2 half is lost; from 4 half ends and half leaves 2. */
    private static void winsWithMisses() {
        DartRoom half = Rooms.clouded(0, 0, 1, 1, 0, 1);
        CHECK.near("15 wins(2, 2)", half.wins(2, 2), 2.0 / 3.0);
        CHECK.near("15 wins(4, 2)", half.wins(4, 2), 2.0 / 3.0);
        CHECK.near("15 wins(2, 4)", half.wins(2, 4), 2.0 / 3.0);
        CHECK.near("15 wins(4, 4)", half.wins(4, 4), 0.5 + 0.5 / 3.0);
        DartRoom rare = Rooms.clouded(0, 0, 1, 1, 0, 1, 2, 0, 1);
        CHECK.near("15 two of three are lost", rare.wins(2, 2), (1.0 / 3.0) / (5.0 / 9.0));
    }

    /** LUCK goes round: the last SECTOR and the first stand side by side. */
    private static void luck() {
        int[] inOrder = new int[20];
        for (int s = 0; s < 20; s++) {
            inOrder[s] = s + 1;
        }
        DartRoom room = board(inOrder);
        due("16 1 to 20 in order: 19 ones and a 19", room.luck(), 38);
        // 10 and 11 change places in the middle: one 1 stays, two become 2.
        room.swap(9, 10);
        due("16 a change in the middle", room.luck(), 40);
        room.swap(9, 10);
        // 1 and 20 change places: 18, 17 ones, 18, and round 19.
        room.swap(0, 19);
        due("16 the first and the last change places", room.luck(), 18 + 17 + 18 + 19);
    }

    /** Puts these values round the board. */
    private static DartRoom board(int[] values) {
        DartRoom room = new DartRoom();
        for (int s = 0; s < 20; s++) {
            int t = s;
            while (room.value(t) != values[s]) {
                t++;
            }
            room.swap(s, t);
        }
        return room;
    }

    /** 'The exchange .. that makes LUCK greatest (the first of like ones): 32 s + t; NONE' */
    private static void luckier() {
        // High and low by turns is the greatest there is; many an exchange makes just as much.
        int[] turns = {1, 11, 2, 12, 3, 13, 4, 14, 5, 15, 6, 16, 7, 17, 8, 18, 9, 19, 10, 20};
        DartRoom greatest = board(turns);
        due("16 the greatest LUCK", greatest.luck(), 200);
        due("17 none makes it greater", greatest.luckier(), NONE);
        exchange(turns, 0, 2);
        due("17 an exchange of like LUCK", Rooms.luckOf(turns), 200);
        exchange(turns, 0, 2);
        exchange(turns, 0, 19);
        DartRoom ends = board(turns);
        due("17 the first and the last", ends.luckier(), 19);
        due("17 it changes nothing", ends.luck(), Rooms.luckOf(turns));
        due("4 the exchange is made", ends.swap(0, 19), 1);
        due("17 none is luckier then", ends.luckier(), NONE);
    }

    /** Drawn boards: the answer against all exchanges tried one by one; among them the edges are met. */
    private static void luckierOfManyBoards() {
        int[] values = Rooms.FIRST.clone();
        long x = 7;
        boolean[] met = new boolean[5];
        for (int i = 0; i < 4000; i++) {
            x = Rooms.drawn(x);
            exchange(values, (int) (x / 65536 % 20), (int) (x / 65536 / 20 % 20));
            int want = luckiest(values, met);
            due("17 board " + i, board(values).luckier(), want);
            met[0] |= want >= 0 && want / 32 == 0;
            met[1] |= want % 32 == 19;
            met[2] |= want == 32 * 18 + 19 || want / 32 + 1 == want % 32;
            met[3] |= want == 19;
        }
        for (int i = 0; i < met.length; i++) {
            CHECK.holds("17 edge " + i + " is met among the boards", met[i]);
        }
    }

    private static int luckiest(int[] values, boolean[] met) {
        int most = Rooms.luckOf(values);
        int found = NONE;
        int like = 0;
        for (int s = 0; s < 20; s++) {
            for (int t = s + 1; t < 20; t++) {
                exchange(values, s, t);
                int now = Rooms.luckOf(values);
                exchange(values, s, t);
                like = now > most ? 1 : now == most ? like + 1 : like;
                found = now > most ? 32 * s + t : found;
                most = Math.max(most, now);
            }
        }
        met[4] |= found != NONE && like > 1;
        return found;
    }

    private static void exchange(int[] values, int s, int t) {
        int kept = values[s];
        values[s] = values[t];
        values[t] = kept;
    }

    public static void main(String[] args) {
        left();
        darts();
        farthest();
        oneDart();
        powers();
        bustAndBeyond();
        hopeless();
        fewestThrows();
        noneOfThrows();
        stepsToNone();
        lostWeights();
        winsBounds();
        winsWithoutMisses();
        winsWithMisses();
        luck();
        luckier();
        luckierOfManyBoards();
        CHECK.end();
    }
}
