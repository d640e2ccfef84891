import java.io.IOException;
import java.lang.reflect.Method;
import java.lang.reflect.Modifier;
import java.nio.file.Files;
import java.nio.file.Path;
import java.util.ArrayList;
import java.util.List;

/** README.md's example is the one that stands here, answers as it says, and its table has every call. */
public final class ReadmeTest {
    private static final Check CHECK = new Check("ReadmeTest");
    private static final String FIRST_LINE = "DartRoom room = new DartRoom();";
    private static final String LAST_LINE = "int thrown = room.undo();";

    private static void example() {
        DartRoom room = new DartRoom();
        room.cloud(0, 1, 2);
        room.cloud(0, -1, 2);
        int aim = room.best();
        int mean = room.mean(aim);
        long ways = room.ways(170, 3);
        int first = room.wayAim(170, 3);
        double plan = Double.longBitsToDouble(room.throwsOf(301));
        double chance = Double.longBitsToDouble(room.wins(40, 32));
        room.game(301, 3, 7);
        int count = room.dart(DartRoom.NONE);
        int left = room.about(1);
        int thrown = room.undo();
        CHECK.due("aim", aim, 0);
        CHECK.due("mean", mean, 250);
        CHECK.due("ways", ways, 20);
        CHECK.due("first", first, 61);
        CHECK.due("plan in hundredths", (long) (plan * 100), 676);
        CHECK.due("chance in thousandths", (long) (chance * 1000), 625);
        CHECK.due("count", count, 57);
        CHECK.due("left", left, 244);
        CHECK.due("thrown", thrown, 0);
    }

    /** The lines of code from the example's first to its last, without what is said beside them. */
    private static List<String> exampleIn(Path file) throws IOException {
        List<String> found = new ArrayList<>();
        for (String line : Files.readAllLines(file)) {
            String code = line.replaceAll("//.*", "").strip();
            boolean within = !found.isEmpty() && !found.get(found.size() - 1).equals(LAST_LINE);
            if (within || (found.isEmpty() && code.equals(FIRST_LINE))) {
                found.add(code);
            }
        }
        return found;
    }

    private static void sameExample() throws IOException {
        List<String> here = exampleIn(Path.of("src/test/java/ReadmeTest.java"));
        List<String> told = exampleIn(Path.of("README.md"));
        CHECK.due("lines of the example", here.size(), 13);
        CHECK.holds("README.md has the example that is tried: " + told, told.equals(here));
    }

    private static void everyCall() throws IOException {
        String text = Files.readString(Path.of("README.md"));
        for (Method m : DartRoom.class.getDeclaredMethods()) {
            if (Modifier.isPublic(m.getModifiers())) {
                CHECK.holds("README.md has a row for " + m.getName(), text.contains("\n| `" + m.getName() + "("));
            }
        }
    }

    public static void main(String[] args) throws IOException {
        example();
        sameExample();
        everyCall();
        CHECK.end();
    }
}
