import java.util.ArrayList;
import java.util.Arrays;
import java.util.List;
import java.util.function.Consumer;
import java.util.function.ToLongFunction;

/**
 * 'Refused, changing nothing, the first of: BAD -2 a number is not as told; NO -3 as told': each refused call
 * in rooms of many kinds, each beside a twin that was not asked.
 */
public final class RefusedTest {
    private static final Check CHECK = new Check("RefusedTest");
    private static final int NONE = DartRoom.NONE, BAD = DartRoom.BAD, NO = DartRoom.NO;
    private static final int LOW = Rooms.LOW, HIGH = Rooms.HIGH;

    private record Call(String name, ToLongFunction<DartRoom> act, long want) {
    }

    private record State(String name, Consumer<DartRoom> make, List<Call> refusedHere) {
    }

    private static String written(String name, int... numbers) {
        return name + Arrays.toString(numbers);
    }

    /** Every call that is BAD in whatever state: at the first number that is not allowed, on each side, and far. */
    private static List<Call> badCalls() {
        List<Call> calls = new ArrayList<>();
        for (int wrong : new int[] {-3, 3, LOW, HIGH}) {
            for (int v : new int[] {0, 1, 200}) {
                bad(calls, written("cloud", wrong, 0, v), r -> r.cloud(wrong, 0, v));
                bad(calls, written("cloud", 0, wrong, v), r -> r.cloud(0, wrong, v));
            }
            bad(calls, written("cloud", wrong, wrong, 0), r -> r.cloud(wrong, wrong, 0));
        }
        for (int wrong : new int[] {-1, 201, LOW, HIGH}) {
            bad(calls, written("cloud", 0, 0, wrong), r -> r.cloud(0, 0, wrong));
            bad(calls, written("cloud", -2, 2, wrong), r -> r.cloud(-2, 2, wrong));
            bad(calls, written("cloud", 3, -3, wrong), r -> r.cloud(3, -3, wrong));
        }
        for (int wrong : new int[] {-1, 2, LOW, HIGH}) {
            bad(calls, written("rules", wrong), r -> r.rules(wrong));
        }
        badSectors(calls);
        badAims(calls);
        badPlans(calls);
        badGames(calls);
        return calls;
    }

    private static void bad(List<Call> calls, String name, ToLongFunction<DartRoom> act) {
        calls.add(new Call(name, act, BAD));
    }

    private static void badSectors(List<Call> calls) {
        for (int wrong : new int[] {-1, 20, LOW, HIGH}) {
            bad(calls, written("swap", wrong, 0), r -> r.swap(wrong, 0));
            bad(calls, written("swap", 0, wrong), r -> r.swap(0, wrong));
            bad(calls, written("swap", wrong, wrong), r -> r.swap(wrong, wrong));
            bad(calls, written("value", wrong), r -> r.value(wrong));
            bad(calls, written("bed", 0, wrong), r -> r.bed(0, wrong));
            bad(calls, written("bed", 6, wrong), r -> r.bed(6, wrong));
            bad(calls, written("lands", 0, 0, wrong), r -> r.lands(0, 0, wrong));
            bad(calls, written("lands", 119, 6, wrong), r -> r.lands(119, 6, wrong));
        }
        for (int wrong : new int[] {-1, 7, LOW, HIGH}) {
            bad(calls, written("bed", wrong, 0), r -> r.bed(wrong, 0));
            bad(calls, written("bed", wrong, 19), r -> r.bed(wrong, 19));
            bad(calls, written("bed", wrong, 20), r -> r.bed(wrong, 20));
            bad(calls, written("lands", 0, wrong, 0), r -> r.lands(0, wrong, 0));
            bad(calls, written("lands", 120, wrong, 20), r -> r.lands(120, wrong, 20));
        }
    }

    private static void badAims(List<Call> calls) {
        for (int wrong : new int[] {-2, 120, LOW, HIGH}) {
            bad(calls, written("dart", wrong), r -> r.dart(wrong));
        }
        bad(calls, "dart[-3], which is NO's number", r -> r.dart(NO));
        for (int wrong : new int[] {-1, 120, LOW, HIGH}) {
            bad(calls, written("mean", wrong), r -> r.mean(wrong));
            bad(calls, written("lands", wrong, 0, 0), r -> r.lands(wrong, 0, 0));
        }
    }

    private static void badPlans(List<Call> calls) {
        for (int wrong : new int[] {0, 302, -1, LOW, HIGH}) {
            bad(calls, written("ways", wrong, 1), r -> r.ways(wrong, 1));
            bad(calls, written("wayAim", wrong, 3), r -> r.wayAim(wrong, 3));
            bad(calls, written("ways", wrong, 0), r -> r.ways(wrong, 0));
            bad(calls, written("wayAim", wrong, 4), r -> r.wayAim(wrong, 4));
            bad(calls, written("throwsOf", wrong), r -> r.throwsOf(wrong));
            bad(calls, written("aimOf", wrong), r -> r.aimOf(wrong));
        }
        for (int wrong : new int[] {0, 4, -1, LOW, HIGH}) {
            bad(calls, written("ways", 1, wrong), r -> r.ways(1, wrong));
            bad(calls, written("wayAim", 301, wrong), r -> r.wayAim(301, wrong));
            bad(calls, written("hopeless", wrong), r -> r.hopeless(wrong));
        }
        for (int wrong : new int[] {0, 81, -1, LOW, HIGH}) {
            bad(calls, written("wins", wrong, 1), r -> r.wins(wrong, 1));
            bad(calls, written("wins", 80, wrong), r -> r.wins(80, wrong));
            bad(calls, written("wins", wrong, wrong), r -> r.wins(wrong, wrong));
        }
    }

    private static void badGames(List<Call> calls) {
        for (int wrong : new int[] {1, 302, 0, -1, LOW, HIGH}) {
            bad(calls, written("game", wrong, 1, 0), r -> r.game(wrong, 1, 0));
        }
        for (int wrong : new int[] {0, 4, -1, LOW, HIGH}) {
            bad(calls, written("game", 2, wrong, 0), r -> r.game(2, wrong, 0));
        }
        for (int wrong : new int[] {-1, LOW}) {
            bad(calls, written("game", 301, 3, wrong), r -> r.game(301, 3, wrong));
        }
        bad(calls, written("game", 302, 4, -1), r -> r.game(302, 4, -1));
        for (int wrong : new int[] {-1, 7, LOW, HIGH}) {
            bad(calls, written("about", wrong), r -> r.about(wrong));
        }
    }

    private static List<Call> noDart() {
        return List.of(new Call("dart[0]", r -> r.dart(0), NO), new Call("dart[119]", r -> r.dart(119), NO),
            new Call("dart[NONE]", r -> r.dart(NONE), NO));
    }

    private static List<Call> noGame() {
        List<Call> calls = new ArrayList<>(noDart());
        calls.addAll(noUndo());
        for (int what = 0; what <= 6; what++) {
            int asked = what;
            calls.add(new Call("about[" + what + "]", r -> r.about(asked), NO));
        }
        return calls;
    }

    private static List<Call> noUndo() {
        return List.of(new Call("undo[]", DartRoom::undo, NO));
    }

    private static List<Call> noThrows() {
        return List.of(new Call("dart[NONE]", r -> r.dart(NONE), NO));
    }

    private static List<Call> noLastWeight(int dr, int ds) {
        return List.of(new Call(written("cloud", dr, ds, 0), r -> r.cloud(dr, ds, 0), NO));
    }

    private static List<Call> both(List<Call> some, List<Call> more) {
        List<Call> calls = new ArrayList<>(some);
        calls.addAll(more);
        return calls;
    }

    private static List<State> states() {
        return List.of(
            new State("a new room", r -> { }, both(noGame(), noLastWeight(0, 0))),
            new State("all weight in the first step", r -> Rooms.putCloud(r, -2, -2, 200),
                both(noGame(), noLastWeight(-2, -2))),
            new State("all weight in the last step", r -> Rooms.putCloud(r, 2, 2, 1),
                both(noGame(), noLastWeight(2, 2))),
            new State("a game begun", RefusedTest::begun, both(noUndo(), noLastWeight(0, 0))),
            new State("a game under way", RefusedTest::underWay, List.of()),
            new State("a game under way, its plans asked for", RefusedTest::underWayAsked, List.of()),
            new State("a full cloud, the second player to throw", RefusedTest::fullCloud, List.of()),
            new State("a game over", RefusedTest::over, noDart()),
            new State("a game that the second one won", RefusedTest::overByTheSecond, noDart()),
            new State("all darts taken back", RefusedTest::allBack, noUndo()),
            new State("1 left by DOUBLE", RefusedTest::oneLeft, noThrows()),
            new State("49 left, and only the bull ends", RefusedTest::onlyTheBull, noThrows()));
    }

    private static void begun(DartRoom room) {
        room.game(170, 3, 12345);
    }

    private static void underWay(DartRoom room) {
        Rooms.putCloud(room, 0, 0, 3, 0, 1, 2, -1, 0, 1, 2, -2, 1);
        room.swap(0, 13);
        room.game(90, 2, 77);
        for (int aim : new int[] {41, 42, 60, NONE, 43}) {
            room.dart(aim);
        }
    }

    private static void underWayAsked(DartRoom room) {
        underWay(room);
        room.wins(80, 80);
        room.throwsOf(301);
        room.hopeless(3);
    }

    private static void fullCloud(DartRoom room) {
        Rooms.putFullCloud(room);
        room.rules(0);
        room.game(301, 3, HIGH);
        for (int i = 0; i < 4; i++) {
            room.dart(63);
        }
    }

    private static void over(DartRoom room) {
        room.game(41, 3, 0);
        room.dart(41);
        room.dart(100);
    }

    private static void overByTheSecond(DartRoom room) {
        room.game(40, 1, 0);
        room.dart(41);
        room.dart(100);
    }

    private static void allBack(DartRoom room) {
        Rooms.putCloud(room, 0, -1, 1, 0, 1, 1);
        room.game(60, 2, 5);
        room.dart(40);
        room.dart(41);
        room.dart(42);
        room.undo();
        room.undo();
        room.undo();
    }

    private static void oneLeft(DartRoom room) {
        room.rules(0);
        room.game(2, 1, 9);
        room.dart(41);
        room.dart(41);
        room.rules(1);
    }

    private static void onlyTheBull(DartRoom room) {
        room.game(50, 2, 3);
        room.dart(41);
        Rooms.putCloud(room, -1, 0, 7);
    }

    private static void compare(String name, long[][] got, long[][] want) {
        for (int view = 0; view < Shown.VIEWS; view++) {
            int differs = Arrays.mismatch(got[view], want[view]);
            CHECK.due(name + ": in view " + view + " differs answer", differs, -1);
        }
    }

    private static void refusedAndUnmoved(State state, Call call, long[][] before) {
        String name = state.name + ": " + call.name;
        long[][] after = Shown.of(room -> {
            state.make.accept(room);
            CHECK.due(name, call.act.applyAsLong(room), call.want);
        });
        compare(name, after, before);
    }

    /** Questions are no changes, and a change to what is there already shows nothing. */
    private static List<Consumer<DartRoom>> idleCalls() {
        return List.of(
            r -> r.value(3), r -> r.bed(3, 3), r -> r.lands(63, 3, 3), r -> r.mean(63), DartRoom::best,
            r -> r.ways(60, 3), r -> r.wayAim(40, 2), r -> r.hopeless(2), r -> r.throwsOf(100), r -> r.aimOf(301),
            r -> r.wins(40, 20), DartRoom::luck, DartRoom::luckier, r -> r.about(3), DartRoom::digest,
            r -> r.swap(4, 4),
            r -> { r.swap(2, 19); r.luckier(); r.wins(8, 9); r.swap(19, 2); },
            r -> { int was = r.cloud(1, 1, 9); r.ways(30, 3); r.cloud(1, 1, was); },
            r -> { int was = r.rules(0); r.throwsOf(50); r.rules(was); });
    }

    public static void main(String[] args) {
        List<Call> always = badCalls();
        for (State state : states()) {
            long[][] before = Shown.of(state.make);
            for (Call call : both(always, state.refusedHere)) {
                refusedAndUnmoved(state, call, before);
            }
            int number = 0;
            for (Consumer<DartRoom> idle : idleCalls()) {
                long[][] after = Shown.of(state.make.andThen(idle));
                compare(state.name + ": idle call " + number, after, before);
                number++;
            }
        }
        CHECK.end();
    }
}
