import java.io.IOException;
import java.lang.reflect.Constructor;
import java.lang.reflect.Field;
import java.lang.reflect.Method;
import java.lang.reflect.Modifier;
import java.nio.file.Files;
import java.nio.file.Path;
import java.util.Arrays;
import java.util.HashSet;
import java.util.List;
import java.util.Set;
import java.util.TreeSet;

/** The public face is the document's and no more, and the source keeps to what LANGUAGE.md leaves. */
public final class FaceTest {
    private static final Check CHECK = new Check("FaceTest");
    private static final List<String> FACE = List.of(
        "int cloud(int, int, int)", "int rules(int)", "int swap(int, int)", "int value(int)",
        "int bed(int, int)", "int lands(int, int, int)", "int mean(int)", "int best()",
        "long ways(int, int)", "int wayAim(int, int)", "int hopeless(int)", "long throwsOf(int)",
        "int aimOf(int)", "long wins(int, int)", "int luck()", "int luckier()",
        "int game(int, int, int)", "int dart(int)", "int about(int)", "int undo()", "long digest()");
    private static final List<String> FORBIDDEN = List.of(
        "catch", "finally", "throw ", "synchronized", "assert ", "->", "::", "Exact(", "Double.", "Float.",
        "static final double", "static final float", "static {", "Random", "nanoTime",
        "currentTimeMillis", "java.io", "java.nio", "Thread", "getenv", "getProperty", "Object", "var ",
        ".hashCode", ".equals", ".toString", "System.out", "Math.sqrt", "Math.pow", "volatile", "native ");

    private static String written(Method m) {
        StringBuilder text = new StringBuilder();
        for (Class<?> type : m.getParameterTypes()) {
            text.append(text.length() == 0 ? "" : ", ").append(type.getName());
        }
        return m.getReturnType().getName() + " " + m.getName() + "(" + text + ")";
    }

    private static void members() {
        Set<String> open = new TreeSet<>();
        Set<String> openNames = new HashSet<>();
        for (Method m : DartRoom.class.getDeclaredMethods()) {
            if (!Modifier.isPrivate(m.getModifiers())) {
                CHECK.holds(m.getName() + " is public, not static", Modifier.isPublic(m.getModifiers())
                    && !Modifier.isStatic(m.getModifiers()));
                open.add(written(m));
                openNames.add(m.getName());
            }
        }
        CHECK.holds("the methods are the document's: " + open, open.equals(new TreeSet<>(FACE)));
        Set<String> constants = new TreeSet<>();
        for (Field f : DartRoom.class.getDeclaredFields()) {
            if (!Modifier.isPrivate(f.getModifiers())) {
                constants.add(f.getName());
            }
            if (Modifier.isStatic(f.getModifiers())) {
                CHECK.holds(f.getName() + " is final", Modifier.isFinal(f.getModifiers()));
            }
        }
        CHECK.holds("the constants are the document's: " + constants,
            constants.equals(new TreeSet<>(List.of("NONE", "BAD", "NO"))));
        Constructor<?>[] made = DartRoom.class.getDeclaredConstructors();
        CHECK.due("constructors", made.length, 1);
        CHECK.holds("it is public, without parameters",
            Modifier.isPublic(made[0].getModifiers()) && made[0].getParameterCount() == 0);
        CHECK.holds("the class is final", Modifier.isFinal(DartRoom.class.getModifiers()));
        for (Method m : DartRoom.class.getDeclaredMethods()) {
            CHECK.holds("no private method is named " + m.getName(),
                !Modifier.isPrivate(m.getModifiers()) || !openNames.contains(m.getName()));
        }
        classesInside(openNames);
    }

    private static void classesInside(Set<String> openNames) {
        Class<?>[] inside = DartRoom.class.getDeclaredClasses();
        CHECK.holds("at most twelve classes", inside.length < 12);
        for (Class<?> c : inside) {
            CHECK.holds(c + " is static and not public",
                Modifier.isStatic(c.getModifiers()) && !Modifier.isPublic(c.getModifiers()));
            CHECK.holds(c + " has some twenty fields at most", fields(c) <= 20);
            for (Method m : c.getDeclaredMethods()) {
                CHECK.holds(c + " does not name " + m.getName(), !openNames.contains(m.getName()));
                CHECK.holds(m + " takes at most seven", m.getParameterCount() <= 7);
            }
        }
        CHECK.holds("DartRoom has some twenty fields at most", fields(DartRoom.class) <= 20);
    }

    private static long fields(Class<?> c) {
        return Arrays.stream(c.getDeclaredFields()).filter(f -> !Modifier.isStatic(f.getModifiers())).count();
    }

    private static void source() throws IOException {
        List<String> lines = Files.readAllLines(Path.of("src/main/java/DartRoom.java"));
        int length = 0;
        for (String line : lines) {
            String code = line.replaceAll("//.*|/\\*\\*.*", "");
            for (String word : FORBIDDEN) {
                CHECK.holds("no '" + word + "' in: " + line, !code.contains(word));
            }
            CHECK.holds("no other library: " + line,
                !code.startsWith("import") || code.equals("import java.util.Arrays;"));
            CHECK.holds("no package", !code.startsWith("package"));
            CHECK.holds("plain signs alone", line.chars().allMatch(c -> c > 0 && c < 128));
            // A method's body is indented by four or eight, its head by four less.
            boolean head = code.matches(" {4}( {4})?[a-zA-Z].*\\) \\{");
            length = head ? 1 : length + 1;
            boolean foot = code.matches(" {4}( {4})?\\}");
            CHECK.holds("a method of some sixty lines at most, to: " + line, !foot || length <= 60);
        }
    }

    public static void main(String[] args) throws IOException {
        members();
        source();
        CHECK.end();
    }
}
