import java.lang.reflect.Constructor;
import java.lang.reflect.Field;
import java.lang.reflect.Method;
import java.lang.reflect.Modifier;
import java.nio.file.Files;
import java.nio.file.Path;
import java.util.ArrayList;
import java.util.List;
import java.util.Set;
import java.util.TreeSet;
import java.util.regex.Pattern;

/** The face of the document and no other member, and the rules of LANGUAGE.md that a text shows. */
public final class FaceTest {
    private static final Path SOURCE = Path.of("src/main/java/ScarArmy.java");
    private static final Path DOCUMENT = Path.of("../shared/DOC.md");

    private FaceTest() {
    }

    public static void main(String[] args) throws Exception {
        face();
        hidden();
        nested();
        source();
        Checks.close();
    }

    private static void face() throws Exception {
        Set<String> due = new TreeSet<>();
        boolean inside = false;
        for (String line : Files.readAllLines(DOCUMENT)) {
            inside = inside ? !line.startsWith("```") : line.startsWith("public final class ScarArmy");
            if (inside && line.startsWith("    public ") && line.contains("(") && !line.contains(" ScarArmy()")) {
                due.add(line.trim().replace(";", "").replaceAll("(int|boolean) [a-z]+(?=[,)])", "$1"));
            }
        }
        Set<String> got = new TreeSet<>();
        for (Method m : ScarArmy.class.getDeclaredMethods()) {
            if (!Modifier.isPrivate(m.getModifiers())) {
                got.add(written(m));
            }
        }
        Checks.due("methods in the document", 47, due::size);
        Checks.due("the face", due, () -> got);
        Constructor<?>[] made = ScarArmy.class.getDeclaredConstructors();
        Checks.due("one constructor", "1 1", () -> made.length + " " + made[0].getModifiers());
        Checks.due("the class", Modifier.PUBLIC | Modifier.FINAL, ScarArmy.class::getModifiers);
        Checks.due("NONE", Modifier.PUBLIC | Modifier.STATIC | Modifier.FINAL,
                () -> ScarArmy.class.getField("NONE").getModifiers());
    }

    private static String written(Method m) {
        List<String> types = new ArrayList<>();
        for (Class<?> c : m.getParameterTypes()) {
            types.add(c.getSimpleName());
        }
        List<String> thrown = new ArrayList<>();
        for (Class<?> c : m.getExceptionTypes()) {
            thrown.add(c.getSimpleName());
        }
        return "public " + m.getReturnType().getSimpleName() + " " + m.getName() + "(" + String.join(", ", types)
                + ")" + (thrown.isEmpty() ? "" : " throws " + String.join(", ", thrown));
    }

    private static void hidden() {
        Set<String> open = new TreeSet<>();
        for (Method m : ScarArmy.class.getDeclaredMethods()) {
            if (Modifier.isPublic(m.getModifiers())) {
                open.add(m.getName());
            }
        }
        List<Class<?>> classes = new ArrayList<>(List.of(ScarArmy.class.getDeclaredClasses()));
        classes.add(ScarArmy.class);
        for (Class<?> c : classes) {
            for (Method m : c.getDeclaredMethods()) {
                boolean face = c == ScarArmy.class && Modifier.isPublic(m.getModifiers());
                Checks.due(c.getSimpleName() + "." + m.getName() + " bears a public name", false,
                        () -> !face && open.contains(m.getName()));
                Checks.due(m.getName() + " takes at most seven", true, () -> m.getParameterCount() <= 7);
            }
            for (Field f : c.getDeclaredFields()) {
                Checks.due(f.getName() + " is no static state", true,
                        () -> !Modifier.isStatic(f.getModifiers()) || Modifier.isFinal(f.getModifiers()));
            }
        }
        for (Field f : ScarArmy.class.getDeclaredFields()) {
            Checks.due(f.getName() + " is private", true,
                    () -> f.getName().equals("NONE") || Modifier.isPrivate(f.getModifiers()));
        }
    }

    private static void nested() {
        Class<?>[] inside = ScarArmy.class.getDeclaredClasses();
        Checks.due("some twelve classes", true, () -> inside.length <= 12);
        for (Class<?> c : inside) {
            Checks.due(c.getSimpleName(), true,
                    () -> Modifier.isStatic(c.getModifiers()) && Modifier.isPrivate(c.getModifiers()));
            Checks.due(c.getSimpleName() + " has no class inside", 0, () -> c.getDeclaredClasses().length);
            int fields = 0;
            for (Field f : c.getDeclaredFields()) {
                fields += Modifier.isStatic(f.getModifiers()) ? 0 : 1;
            }
            int counted = fields;
            Checks.due(c.getSimpleName() + " has some twenty fields", true, () -> counted <= 20);
        }
    }

    private static void source() throws Exception {
        String text = Files.readString(SOURCE).replaceAll("(?s)/\\*.*?\\*/", "").replaceAll("//.*", "");
        String[] banned = {"->", "::", "\\btry\\b", "\\bcatch\\b", "\\bfinally\\b", "\\bassert\\b", "\\bsynchronized\\b",
            "\\bpackage\\b", "\\bprotected\\b", "System\\.(?!arraycopy)", "\\bThread\\b", "\\bRandom\\b", "Exact\\b",
            "\\binstanceof\\b", "java\\.(?!util\\.(Arrays|NoSuchElementException);)", "\\bstatic\\s*\\{", "\\bvar\\b",
            "\\bwhile \\(true\\)", "for \\(;;\\)"};
        for (String b : banned) {
            Checks.due("the source has " + b, false, () -> Pattern.compile(b).matcher(text).find());
        }
        int start = -1;
        String[] lines = text.split("\n");
        for (int i = 0; i < lines.length; i++) {
            if (lines[i].matches("( {4}| {8})\\S.*\\{\\s*") && !lines[i].contains(" class ")) {
                start = i;
            }
            if (start >= 0 && lines[i].matches("( {4}| {8})\\}")) {
                int length = i - start;
                String head = lines[start].trim();
                Checks.due(head + " is short", true, () -> length <= 60);
                start = -1;
            }
        }
    }
}
