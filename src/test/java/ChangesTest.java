import java.util.Arrays;
import java.util.List;
import java.util.function.Consumer;

/** Promises 2, 3, 4: what a change changes is seen by every later call, whatever was asked before it. */
public final class ChangesTest {
    private static final Check CHECK = new Check("ChangesTest");
    private static final int NONE = DartRoom.NONE;

    /** Each change is the only one behind the questions, from the first number that is allowed to the last. */
    private static List<Consumer<DartRoom>> changes() {
        return List.of(
            r -> r.cloud(-2, -2, 1), r -> r.cloud(-2, 2, 200), r -> r.cloud(2, -2, 1), r -> r.cloud(2, 2, 200),
            r -> r.cloud(0, 0, 0), r -> r.cloud(0, 0, 200), r -> r.cloud(0, 1, 0), r -> r.cloud(0, 1, 3),
            r -> r.rules(0), r -> r.rules(1), r -> r.swap(0, 19), r -> r.swap(19, 0), r -> r.swap(0, 1),
            r -> r.swap(18, 19), r -> r.swap(10, 11));
    }

    private static void begin(DartRoom room) {
        Rooms.putCloud(room, 0, 0, 5, 0, 1, 2, 1, -1, 1);
    }

    private static void askAll(DartRoom room) {
        room.best();
        room.mean(60);
        room.luckier();
        room.ways(301, 3);
        room.wayAim(60, 2);
        room.hopeless(1);
        room.hopeless(2);
        room.hopeless(3);
        room.throwsOf(301);
        room.aimOf(2);
        room.wins(80, 80);
        room.wins(2, 79);
        room.digest();
    }

    private static void eachChangeIsSeen() {
        int number = 0;
        for (Consumer<DartRoom> change : changes()) {
            Consumer<DartRoom> plain = ChangesTest::begin;
            Consumer<DartRoom> asked = plain.andThen(ChangesTest::askAll);
            same("change " + number, Shown.of(asked.andThen(change)), Shown.of(plain.andThen(change)));
            number++;
        }
    }

    /** Two changes with questions between them; the second also where it takes the first one back. */
    private static void eachPairOfChangesIsSeen() {
        List<Consumer<DartRoom>> all = changes();
        for (int one = 0; one < all.size(); one++) {
            for (int two = 0; two < all.size(); two++) {
                Consumer<DartRoom> begun = ChangesTest::begin;
                Consumer<DartRoom> plain = begun.andThen(all.get(one)).andThen(all.get(two));
                Consumer<DartRoom> asked = begun.andThen(ChangesTest::askAll).andThen(all.get(one))
                    .andThen(ChangesTest::askAll).andThen(all.get(two));
                same("changes " + one + " and " + two, Shown.of(asked), Shown.of(plain));
            }
        }
    }

    private static void same(String name, long[][] got, long[][] want) {
        for (int view = 0; view < Shown.VIEWS; view++) {
            int differs = Arrays.mismatch(got[view], want[view]);
            CHECK.due(name + ": in view " + view + " differs answer", differs, -1);
        }
    }

    /** A question answers alike whether or not a smaller or a greater one was asked before it. */
    private static void orderOfQuestions() {
        long[] up = new long[80];
        DartRoom rising = new DartRoom();
        begin(rising);
        for (int i = 0; i < 80; i++) {
            up[i] = answers(rising, i);
        }
        DartRoom falling = new DartRoom();
        begin(falling);
        for (int i = 79; i >= 0; i--) {
            CHECK.due("asked downwards " + i, answers(falling, i), up[i]);
        }
        for (int i = 0; i < 80; i++) {
            DartRoom alone = new DartRoom();
            begin(alone);
            CHECK.due("asked alone " + i, answers(alone, i), up[i]);
        }
    }

    private static long answers(DartRoom room, int i) {
        long h = room.wins(1 + i, 1 + i * 37 % 80);
        h = 31 * h + room.ways(1 + i * 3, 1 + i % 3);
        h = 31 * h + room.wayAim(1 + i * 2, 3 - i % 3);
        h = 31 * h + room.throwsOf(1 + i * 15 / 4);
        return 31 * h + room.aimOf(301 - i);
    }

    /** What is changed in a game holds from the next dart on. */
    private static void changesInAGame() {
        DartRoom room = new DartRoom();
        room.game(100, 3, 1);
        CHECK.due("2 before", room.dart(40), 20);
        room.cloud(0, 1, 1);
        room.cloud(0, 0, 0);
        CHECK.due("2 by the new cloud", room.dart(40), 1);
        CHECK.due("2 its bed", room.about(6), 41);
        room.cloud(0, 0, 1);
        room.cloud(0, 1, 0);
        room.swap(0, 5);
        CHECK.due("4 by the new values", room.dart(40), 6);
        CHECK.due("4 what was thrown stays", room.about(1), 73);
        CHECK.due("4 the other one is to throw", room.about(0), 1);
        CHECK.due("3 rules(0)", room.rules(0), 1);
        room.game(60, 1, 0);
        CHECK.due("3 STRAIGHT ends by a RING 3", room.dart(65), 60);
        CHECK.due("3 it is over", room.about(4), 1);
        CHECK.due("3 rules(1)", room.rules(1), 0);
        CHECK.due("3 it stays over", room.about(4), 1);
        CHECK.due("21 it is taken back", room.undo(), 0);
        CHECK.due("3 DOUBLE does not end so", room.dart(65), -1060);
    }

    private static void plansInAGame() {
        DartRoom room = new DartRoom();
        room.game(40, 1, 0);
        CHECK.due("4 the plan's aim", room.dart(NONE), 40);
        CHECK.due("4 its bed", room.about(6), 100);
        room.undo();
        room.swap(0, 9);
        CHECK.due("4 the plan's aim behind a swap", room.dart(NONE), 40);
        CHECK.due("4 its bed behind a swap", room.about(6), 109);
        room.undo();
        room.rules(0);
        CHECK.due("3 the plan's aim by STRAIGHT", room.dart(NONE), 40);
        CHECK.due("3 the first one that ends", room.about(6), 109);
        room.undo();
        room.cloud(1, 0, 1);
        room.cloud(0, 0, 0);
        CHECK.due("2 the plan's aim by another cloud", room.dart(NONE), 40);
        CHECK.due("2 the bed is the same", room.about(6), 109);
        CHECK.due("2 the aim is not", room.aimOf(40), 89);
    }

    public static void main(String[] args) {
        eachChangeIsSeen();
        eachPairOfChangesIsSeen();
        orderOfQuestions();
        changesInAGame();
        plansInAGame();
        CHECK.end();
    }
}
