import java.math.BigInteger;

/** Term 3 (A GAME, the draw, turns), promises 18 to 22 and the 512 calls of an object, at their bounds. */
public final class GameEdgesTest {
    private static final Check CHECK = new Check("GameEdgesTest");
    private static final int NONE = DartRoom.NONE, BAD = DartRoom.BAD, NO = DartRoom.NO;
    private static final int LOW = Rooms.LOW, HIGH = Rooms.HIGH;

    private static void due(String call, long got, long want) {
        CHECK.due(call, got, want);
    }

    /** who, LEFT, LEFT, darts of the turn, over, thrown, bed. */
    private static void facts(String when, DartRoom room, int... want) {
        for (int what = 0; what < 7; what++) {
            due(when + ", about(" + what + ")", room.about(what), want[what]);
        }
    }

    /** 'BAD: n 2 .. 301, D, seed below 0'; 'turns of D (1 .. 3) darts' */
    private static void gameBounds() {
        DartRoom room = new DartRoom();
        int[][] wrong = {
            {1, 1, 0}, {302, 1, 0}, {0, 1, 0}, {-1, 1, 0}, {LOW, 1, 0}, {HIGH, 1, 0}, {2, 0, 0}, {2, 4, 0},
            {2, -1, 0}, {2, LOW, 0}, {2, HIGH, 0}, {2, 1, -1}, {2, 1, LOW}, {301, 3, -1}, {302, 4, -1}
        };
        for (int[] w : wrong) {
            due("18 game(" + w[0] + ", " + w[1] + ", " + w[2] + ")", room.game(w[0], w[1], w[2]), BAD);
            due("18 there is no GAME by it", room.about(0), NO);
        }
        for (int n : new int[] {2, 3, 300, 301}) {
            for (int darts = 1; darts <= 3; darts++) {
                for (int seed : new int[] {0, 1, HIGH - 1, HIGH}) {
                    due("18 game(" + n + ", " + darts + ", " + seed + ")", room.game(n, darts, seed), 1);
                    facts("18 as it begins", room, 0, n, n, darts, 0, 0, NONE);
                }
            }
        }
        for (int[] w : wrong) {
            due("18 game(" + w[0] + ", " + w[1] + ", " + w[2] + ")", room.game(w[0], w[1], w[2]), BAD);
        }
        facts("18 the old one stays when one is refused", room, 0, 301, 301, 3, 0, 0, NONE);
    }

    /** 'A GAME begins (one that was goes)': at its beginning, under way, and when it is over. */
    private static void gamesGo() {
        DartRoom room = new DartRoom();
        room.game(40, 1, 3);
        due("18 behind one at its beginning", room.game(41, 2, 4), 1);
        facts("18 the new one", room, 0, 41, 41, 2, 0, 0, NONE);
        due("19 one dart", room.dart(41), 1);
        due("18 behind one under way", room.game(301, 3, 5), 1);
        facts("18 the new one", room, 0, 301, 301, 3, 0, 0, NONE);
        due("21 no dart of the old one is taken back", room.undo(), NO);
        due("18 a short one", room.game(40, 2, 6), 1);
        due("19 the end", room.dart(100), 40);
        due("18 behind one that is over", room.game(2, 1, 7), 1);
        facts("18 the new one", room, 0, 2, 2, 1, 0, 0, NONE);
        due("21 the end of the old one stays", room.undo(), NO);
        due("19 it goes", room.dart(101), 2);
    }

    private static void keepsTheBoard() {
        DartRoom room = new DartRoom();
        room.swap(3, 4);
        room.cloud(1, 1, 7);
        room.rules(0);
        room.game(9, 1, 1);
        due("18 the values stay", room.value(3), 13);
        due("18 the weights stay", room.cloud(1, 1, 7), 7);
        due("18 the RULES stay", room.rules(0), 0);
    }

    /** 'x becomes x 1103515245 + 12345, of which the lowest 31 bits stay' */
    private static void drawRow() {
        DartRoom room = new DartRoom();
        Rooms.putFullCloud(room);
        BigInteger times = BigInteger.valueOf(1103515245);
        BigInteger more = BigInteger.valueOf(12345);
        BigInteger all = BigInteger.ONE.shiftLeft(31);
        for (int seed : new int[] {0, 1, 65535, 65536, 1 << 30, HIGH - 1, HIGH}) {
            room.game(301, 3, seed);
            BigInteger x = BigInteger.valueOf(seed);
            for (int i = 0; i < 8; i++) {
                x = x.multiply(times).add(more).mod(all);
                int rest = x.intValue() / 65536 % 5000;
                int bed = bedOfRest(rest);
                due("19 seed " + seed + ", dart " + i, room.dart(63), Rooms.counts(bed / 20, bed % 20));
                due("20 its bed", room.about(6), bed);
            }
        }
    }

    /** Where a dart at 63 lands by the full cloud: 200 numbers of rest for each step, dr before ds. */
    private static int bedOfRest(int rest) {
        int step = rest / 200;
        return 20 * (1 + step / 5) + 1 + step % 5;
    }

    /** 'by W left over counts through the weights': the first and the last number of each weight. */
    private static void drawEdges() {
        for (int step = 0; step < 25; step++) {
            for (int rest : new int[] {200 * step, 200 * step + 1, 200 * step + 199}) {
                DartRoom room = new DartRoom();
                Rooms.putFullCloud(room);
                room.game(301, 1, Rooms.seedFor(rest, 5000));
                int bed = bedOfRest(rest);
                due("19 rest " + rest, room.dart(63), Rooms.counts(bed / 20, bed % 20));
                due("20 rest " + rest, room.about(6), bed);
            }
        }
    }

    /** Weights of 0 before, between and behind the others take no number. */
    private static void drawPastZeros() {
        int[] cloud = {-2, -1, 2, 0, 0, 1, 0, 2, 3, 1, -2, 1};
        int[] bedOf = {20 + 2, 20 + 2, 60 + 3, 60 + 5, 60 + 5, 60 + 5, 80 + 1};
        drawAll(cloud, bedOf);
        drawAll(new int[] {-2, -2, 1, 0, 0, 1, 2, 2, 1}, new int[] {20 + 1, 60 + 3, 100 + 5});
        drawAll(new int[] {2, 2, 1}, new int[] {100 + 5});
        drawAll(new int[] {-2, -2, 1}, new int[] {20 + 1});
        drawAll(new int[] {-1, 2, 1, 0, -2, 1}, new int[] {40 + 5, 60 + 1});
        drawAll(new int[] {0, 1, 1, 0, -1, 1}, new int[] {60 + 2, 60 + 4});
    }

    private static void drawAll(int[] cloud, int[] bedOf) {
        DartRoom room = Rooms.clouded(cloud);
        for (int rest = 0; rest < bedOf.length; rest++) {
            room.game(301, 1, Rooms.seedFor(rest, bedOf.length));
            room.dart(63);
            due("19 rest " + rest + " of " + bedOf.length, room.about(6), bedOf[rest]);
        }
    }

    /** 'who is to throw', 'darts that are left of the turn': for turns of 1, 2 and 3 darts. */
    private static void turns() {
        for (int darts = 1; darts <= 3; darts++) {
            DartRoom room = new DartRoom();
            room.game(301, darts, 0);
            int[] left = {301, 301};
            for (int i = 0; i < 12; i++) {
                int who = i / darts % 2;
                due("20 who is to throw", room.about(0), who);
                due("20 darts of the turn", room.about(3), darts - i % darts);
                due("20 darts thrown", room.about(5), i);
                due("19 dart", room.dart(40 + i), Rooms.FIRST[i]);
                left[who] -= Rooms.FIRST[i];
                due("20 LEFT of 0", room.about(1), left[0]);
                due("20 LEFT of 1", room.about(2), left[1]);
                due("20 the BED", room.about(6), 40 + i);
                due("20 not over", room.about(4), 0);
            }
        }
    }

    /** 'BUST: LEFT is what it was as the turn began, and the turn is over': by each dart of the turn. */
    private static void bustTurns() {
        DartRoom room = new DartRoom();
        room.game(45, 3, 0);
        due("19 BUST by the first dart", room.dart(60), -1060);
        facts("19 by the first", room, 1, 45, 45, 3, 0, 1, 60);
        due("19 the other one", room.dart(41), 1);
        due("19 BUST by the second dart", room.dart(60), -1060);
        facts("19 by the second", room, 0, 45, 45, 3, 0, 3, 60);
        room.dart(41);
        room.dart(48);
        due("19 BUST by the third dart", room.dart(60), -1060);
        facts("19 by the third", room, 1, 45, 45, 3, 0, 6, 60);
        room.dart(41);
        room.dart(48);
        due("19 a turn without BUST", room.dart(50), 3);
        facts("19 without", room, 0, 45, 39, 3, 0, 9, 50);
        room.dart(43);
        room.dart(43);
        room.dart(43);
        due("19 in a later turn", room.dart(41), 1);
        due("19 BUST in a later turn", room.dart(60), -1060);
        facts("19 what the turn began with, not the GAME", room, 0, 33, 39, 3, 0, 14, 60);
        due("19 so for the other one", room.dart(41), 1);
        due("19 BUST", room.dart(60), -1060);
        facts("19 what the turn began with", room, 1, 33, 39, 3, 0, 16, 60);
    }

    /** BUST at the last dart of a turn is no second change of turns. */
    private static void bustOfOneDart() {
        DartRoom room = new DartRoom();
        room.game(2, 1, 0);
        for (int i = 0; i < 9; i++) {
            due("20 by turns", room.about(0), i % 2);
            due("19 BUST", room.dart(i % 2 == 0 ? 0 : 119), i % 2 == 0 ? -1050 : -1010);
            due("20 LEFT stays", room.about(1) + room.about(2), 4);
            due("20 a dart is left", room.about(3), 1);
        }
    }

    /** A dart that lands with 0 is a dart; it is neither BUST nor the end. */
    private static void beyond() {
        DartRoom room = Rooms.clouded(2, 0, 1);
        room.game(2, 2, 0);
        due("19 it counts 0", room.dart(119), 0);
        facts("19 one dart is gone", room, 0, 2, 2, 1, 0, 1, 139);
        due("19 it counts 0", room.dart(80), 0);
        facts("19 the turn is over", room, 1, 2, 2, 2, 0, 2, 120);
    }

    /** 'the winner, when it is over': the first one, the second one, by the first and the last dart. */
    private static void winners() {
        DartRoom room = new DartRoom();
        room.game(40, 3, 0);
        due("19 the first dart of all", room.dart(100), 40);
        facts("20 over", room, 0, 0, 40, 2, 1, 1, 100);
        room.game(40, 1, 0);
        room.dart(41);
        due("19 the second one ends", room.dart(100), 40);
        facts("20 over by the second one", room, 1, 39, 0, 0, 1, 2, 100);
        due("19 no GAME goes", room.dart(0), NO);
        due("19 no GAME goes, by THROWS", room.dart(NONE), NO);
        due("19 BAD is first", room.dart(120), BAD);
        due("19 BAD is first", room.dart(-2), BAD);
        due("21 the end is taken back", room.undo(), 1);
        facts("21 it goes", room, 1, 39, 40, 1, 0, 1, 41);
        due("19 not the end this time", room.dart(60), -1060);
        facts("19 it goes on", room, 0, 39, 40, 1, 0, 2, 60);
        room.game(50, 3, 0);
        room.dart(43);
        room.dart(45);
        due("19 by the last dart of a turn", room.dart(100), 40);
        facts("20 over, the turn is not passed on", room, 0, 0, 50, 0, 1, 3, 100);
        room.undo();
        room.dart(41);
        room.dart(43);
        room.dart(45);
        due("19 the second one by its last dart", room.dart(100), 40);
        facts("20 over by the second one", room, 1, 39, 0, 0, 1, 6, 100);
    }

    /** The winner is told, and the end stands, whatever is asked or changed behind it. */
    private static void overStays() {
        DartRoom room = new DartRoom();
        room.game(4, 1, 0);
        room.dart(41);
        room.dart(108);
        facts("20 over", room, 1, 3, 0, 0, 1, 2, 108);
        room.swap(0, 8);
        room.rules(0);
        room.cloud(0, 0, 9);
        facts("20 over still", room, 1, 3, 0, 0, 1, 2, 108);
        due("19 no GAME goes still", room.dart(0), NO);
    }

    /** 'NONE: that of THROWS; -3 NO, if there is none' */
    private static void plannedDarts() {
        DartRoom room = Rooms.clouded(-1, 0, 1);
        room.game(51, 1, 0);
        due("19 51 by a 1", room.dart(NONE), 1);
        due("20 from RING 3", room.about(6), 41);
        due("19 the other one's 51 by a 1", room.dart(NONE), 1);
        due("19 50 by the BULL", room.dart(NONE), 50);
        facts("20 over", room, 0, 0, 50, 0, 1, 3, 0);
        room.game(49, 1, 0);
        long before = room.digest();
        due("19 49 has none", room.dart(NONE), NO);
        due("19 nothing is changed", room.digest(), before);
        due("19 an AIM may be told still", room.dart(61), 1);
        due("19 the other one's 49 has none", room.dart(NONE), NO);
        due("20 it is still the other one's turn", room.about(0), 1);
        due("20 one dart was thrown", room.about(5), 1);
        room.cloud(0, 0, 1);
        CHECK.holds("19 with another weight it has", room.aimOf(49) != NONE && room.dart(NONE) != NO);
    }

    /** A refused dart takes no draw. */
    private static void refusedDraws() {
        DartRoom one = Rooms.clouded(0, 0, 1, 0, 1, 1, 0, 2, 1, -1, 0, 1);
        DartRoom two = Rooms.clouded(0, 0, 1, 0, 1, 1, 0, 2, 1, -1, 0, 1);
        one.game(301, 3, 99);
        two.game(301, 3, 99);
        due("21 none was thrown", one.undo(), NO);
        for (int i = 0; i < 25; i++) {
            due("19 refused", one.dart(120), BAD);
            due("19 refused", one.dart(-2), BAD);
            due("20 refused", one.about(7), BAD);
            due("18 refused", one.game(1, 1, 5), BAD);
            due("19 the same draw", one.dart(63), two.dart(63));
            due("20 the same bed", one.about(6), two.about(6));
        }
    }

    /** 'about(what)': 0 .. 6; 'BAD; NO: there was none' */
    private static void aboutBounds() {
        DartRoom room = new DartRoom();
        for (int what : new int[] {-1, 7, LOW, HIGH}) {
            due("20 BAD before NO, about(" + what + ")", room.about(what), BAD);
        }
        for (int what = 0; what <= 6; what++) {
            due("20 there was none, about(" + what + ")", room.about(what), NO);
        }
        room.game(301, 2, 0);
        for (int what : new int[] {-1, 7, LOW, HIGH}) {
            due("20 about(" + what + ")", room.about(what), BAD);
        }
        due("20 about(0)", room.about(0), 0);
        due("20 about(6), none was thrown", room.about(6), NONE);
        room.dart(0);
        due("20 the first BED of all", room.about(6), 0);
        room.dart(119);
        due("20 the last BED without a miss", room.about(6), 119);
        Rooms.putCloud(room, 2, 0, 1);
        room.dart(119);
        due("20 the last BED of all", room.about(6), 139);
        room.undo();
        room.undo();
        room.undo();
        due("20 NONE again", room.about(6), NONE);
    }

    /** 'NO: none was thrown': without a GAME, at its beginning, and when all are taken back. */
    private static void undoBounds() {
        DartRoom room = new DartRoom();
        due("21 without a GAME", room.undo(), NO);
        room.game(100, 3, 0);
        due("21 at its beginning", room.undo(), NO);
        room.dart(40);
        due("21 the only one", room.undo(), 0);
        due("21 all are taken back", room.undo(), NO);
        facts("21 as it began", room, 0, 100, 100, 3, 0, 0, NONE);
        room.dart(40);
        room.dart(41);
        due("21 the second one", room.undo(), 1);
        due("21 the first one", room.undo(), 0);
        due("21 no more", room.undo(), NO);
        due("18 a refused GAME", room.game(1, 1, 1), BAD);
        due("21 no more still", room.undo(), NO);
    }

    /** A dart taken back leaves the turn as it was: who, how many darts, and what BUST goes back to. */
    private static void undoOfTurns() {
        DartRoom room = new DartRoom();
        room.game(100, 3, 0);
        room.dart(60);
        room.dart(41);
        due("21 within a turn", room.undo(), 1);
        due("19 BUST behind it", room.dart(69), -1051);
        facts("19 as the turn began", room, 1, 100, 100, 3, 0, 2, 69);
        due("21 a BUST is taken back", room.undo(), 1);
        facts("21 as before it", room, 0, 40, 100, 2, 0, 1, 60);
        room.dart(41);
        room.dart(41);
        facts("21 the turn is over", room, 1, 38, 100, 3, 0, 3, 41);
        room.dart(40);
        due("21 the other one's dart", room.undo(), 3);
        facts("21 the other one's turn begins", room, 1, 38, 100, 3, 0, 3, 41);
        due("21 the last dart of the turn before", room.undo(), 2);
        facts("21 that turn again", room, 0, 39, 100, 1, 0, 2, 41);
        due("19 BUST in it", room.dart(60), -1060);
        facts("19 as that turn began", room, 1, 100, 100, 3, 0, 3, 60);
        room.dart(60);
        room.dart(60);
        facts("19 BUST of the other one", room, 0, 100, 100, 3, 0, 5, 60);
        due("21 it is taken back", room.undo(), 4);
        facts("21 the other one throws", room, 1, 100, 40, 2, 0, 4, 60);
    }

    /** 'as if it was not thrown (the draw, too)' */
    private static void undoOfDraws() {
        DartRoom room = new DartRoom();
        Rooms.putFullCloud(room);
        room.game(301, 2, 4711);
        int[] beds = new int[10];
        for (int i = 0; i < 10; i++) {
            room.dart(63);
            beds[i] = room.about(6);
        }
        for (int back = 1; back <= 10; back++) {
            for (int i = 0; i < back; i++) {
                due("21 undo", room.undo(), 9 - i);
            }
            for (int i = 10 - back; i < 10; i++) {
                room.dart(63);
                due("21 the same draw", room.about(6), beds[i]);
            }
        }
    }

    /** Only the dart is taken back: not a change of the board, the cloud or the rules behind it. */
    private static void undoOfNothingElse() {
        DartRoom room = new DartRoom();
        room.game(100, 3, 0);
        room.dart(40);
        room.swap(0, 1);
        room.cloud(0, 0, 5);
        room.rules(0);
        due("21 undo", room.undo(), 0);
        due("4 the values stay", room.value(0), 1);
        due("2 the weight stays", room.cloud(0, 0, 5), 5);
        due("3 the RULES stay", room.rules(0), 0);
        due("19 by the new values", room.dart(40), 1);
        facts("21 the board as it is now", room, 0, 99, 100, 2, 0, 1, 40);
    }

    /** 'h = 151; then h = 31 h + v for each v', each v as other calls tell it. */
    private static long digestOf(DartRoom room, int[] weights, int rule) {
        long h = 151;
        for (int s = 0; s < 20; s++) {
            h = 31 * h + room.value(s);
        }
        int all = 0;
        for (int w : weights) {
            h = 31 * h + w;
            all += w;
        }
        h = 31 * h + rule;
        h = 31 * h + all;
        h = 31 * h + room.luck();
        for (int what = 0; what <= 6 && room.about(0) != NO; what++) {
            h = 31 * h + room.about(what);
        }
        return h;
    }

    private static void digests() {
        DartRoom room = new DartRoom();
        int[] weights = new int[25];
        weights[12] = 1;
        due("22 a new room", room.digest(), digestOf(room, weights, 1));
        for (int step = 0; step < 25; step++) {
            weights[step] = 200 - step;
            room.cloud(step / 5 - 2, step % 5 - 2, 200 - step);
        }
        due("22 weights by dr, ds", room.digest(), digestOf(room, weights, 1));
        room.rules(0);
        due("22 the RULES", room.digest(), digestOf(room, weights, 0));
        room.swap(0, 19);
        due("22 values and luck", room.digest(), digestOf(room, weights, 0));
        room.game(301, 3, HIGH);
        due("22 a GAME", room.digest(), digestOf(room, weights, 0));
        for (int i = 0; i < 5; i++) {
            room.dart(63);
            due("22 a dart", room.digest(), digestOf(room, weights, 0));
        }
        room.undo();
        due("22 a dart taken back", room.digest(), digestOf(room, weights, 0));
        room.game(2, 1, 0);
        due("22 another GAME", room.digest(), digestOf(room, weights, 0));
        for (int step = 0; step < 25; step++) {
            weights[step] = 200;
        }
        Rooms.putFullCloud(room);
        due("22 W is 5000", room.digest(), digestOf(room, weights, 0));
    }

    /** A digest does not tell how a GAME came to stand: the draw is not in it. */
    private static void digestWithoutTheDraw() {
        DartRoom one = new DartRoom();
        DartRoom two = new DartRoom();
        one.game(301, 3, 1);
        two.game(301, 3, 2);
        due("22 seeds are not told", one.digest(), two.digest());
    }

    /** 'An object is used for at most 512 calls': the last of them answers as the first would. */
    private static void lastCalls() {
        DartRoom darts = new DartRoom();
        darts.game(2, 3, 1);
        for (int call = 2; call <= 511; call++) {
            due("512 darts, call " + call, darts.dart(0), -1050);
        }
        due("the last call takes back a dart", darts.undo(), 509);
        DartRoom more = new DartRoom();
        more.game(2, 1, 1);
        for (int call = 2; call <= 511; call++) {
            more.dart(0);
        }
        due("the last call is a dart", more.dart(101), 2);
        DartRoom back = new DartRoom();
        back.game(301, 2, 1);
        for (int call = 2; call <= 256; call++) {
            back.dart(call % 2 == 0 ? 41 : 0);
        }
        for (int call = 257; call <= 511; call++) {
            due("256 darts back, call " + call, back.undo(), 511 - call);
        }
        due("the last call finds none", back.undo(), NO);
    }

    private static void lastPlans() {
        DartRoom fresh = new DartRoom();
        long wins = fresh.wins(79, 80);
        long ways = fresh.ways(170, 3);
        DartRoom room = new DartRoom();
        for (int call = 1; call <= 508; call += 4) {
            room.swap(call % 20, 7);
            room.ways(170, 3);
            room.wins(80, 79);
            room.swap(7, call % 20);
        }
        due("call 509", room.ways(170, 3), ways);
        due("call 510", room.wins(79, 80), wins);
        due("call 511", room.luckier(), NONE);
        due("call 512", room.throwsOf(301), Rooms.bits(6.0));
        DartRoom games = new DartRoom();
        for (int call = 1; call <= 510; call++) {
            due("a GAME, call " + call, games.game(2 + call % 300, 1 + call % 3, call), 1);
        }
        due("call 511", games.dart(41), 1);
        due("call 512", games.about(5), 1);
    }

    public static void main(String[] args) {
        gameBounds();
        gamesGo();
        keepsTheBoard();
        drawRow();
        drawEdges();
        drawPastZeros();
        turns();
        bustTurns();
        bustOfOneDart();
        beyond();
        winners();
        overStays();
        plannedDarts();
        refusedDraws();
        aboutBounds();
        undoBounds();
        undoOfTurns();
        undoOfDraws();
        undoOfNothingElse();
        digests();
        digestWithoutTheDraw();
        lastCalls();
        lastPlans();
        CHECK.end();
    }
}
