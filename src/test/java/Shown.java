import java.util.function.Consumer;

/**
 * All that later calls show of a room, in views: each view is asked of a room of its own, so that no object
 * is used beyond its 512 calls.
 */
final class Shown {
    static final int VIEWS = 6;
    private static final int[] WINS_OF = {1, 2, 3, 4, 5, 7, 10, 13, 17, 20, 25, 32, 36, 40, 50, 55, 61, 70, 79, 80};
    private static final int[] AIMS = {-1, 61, 0, 119, 40, -1, 103, 25, 88};

    private final long[] row = new long[512];
    private int count = 0;

    private Shown() {
    }

    /** Makes a room as told for each view, and puts the answers side by side. */
    static long[][] of(Consumer<DartRoom> make) {
        long[][] shown = new long[VIEWS][];
        for (int view = 0; view < VIEWS; view++) {
            DartRoom room = new DartRoom();
            make.accept(room);
            shown[view] = new Shown().look(room, view);
        }
        return shown;
    }

    private long[] look(DartRoom room, int view) {
        switch (view) {
            case 0 -> board(room);
            case 1 -> landings(room);
            case 2 -> ways(room);
            case 3 -> throwing(room);
            case 4 -> wins(room);
            default -> game(room);
        }
        return row;
    }

    private void put(long answer) {
        row[count] = answer;
        count++;
    }

    private void board(DartRoom room) {
        for (int s = 0; s < 20; s++) {
            put(room.value(s));
            for (int r = 0; r <= 6; r++) {
                put(room.bed(r, s));
            }
        }
        for (int aim = 0; aim < 120; aim++) {
            put(room.mean(aim));
        }
        put(room.best());
        put(room.luck());
        put(room.luckier());
        about(room);
    }

    private void landings(DartRoom room) {
        for (int aim = 0; aim < 120; aim += 7) {
            for (int r = 0; r <= 6; r++) {
                put(room.lands(aim, r, aim % 20));
                put(room.lands(aim, r, (aim + 19) % 20));
                put(room.lands(aim, r, (aim + 12) % 20));
            }
        }
    }

    private void ways(DartRoom room) {
        for (int d = 1; d <= 3; d++) {
            put(room.hopeless(d));
            for (int n = 1; n <= 301; n += n < 40 ? 1 : n < 176 ? 5 : 25) {
                put(room.ways(n, d));
                put(room.wayAim(n, d));
            }
        }
    }

    private void throwing(DartRoom room) {
        for (int n = 1; n <= 301; n += n < 100 ? 1 : 3) {
            put(room.throwsOf(n));
            put(room.aimOf(n));
        }
    }

    private void wins(DartRoom room) {
        for (int a : WINS_OF) {
            for (int b : WINS_OF) {
                put(room.wins(a, b));
            }
        }
    }

    /** How the game stands, how it goes on (the draw, too), and what undo brings back down to its beginning. */
    private void game(DartRoom room) {
        about(room);
        for (int aim : AIMS) {
            put(room.dart(aim));
            about(room);
        }
        for (int i = 0; i < 30; i++) {
            put(room.undo());
            about(room);
        }
    }

    private void about(DartRoom room) {
        for (int what = 0; what <= 6; what++) {
            put(room.about(what));
        }
        put(room.digest());
    }
}
