import java.lang.reflect.InvocationTargetException;
import java.lang.reflect.Method;
import java.lang.reflect.Modifier;
import java.nio.file.Files;
import java.nio.file.Path;
import java.util.regex.Matcher;
import java.util.regex.Pattern;

/** The examples of README.md answer what stands behind them, and README.md names every call. */
public final class ReadmeTest {
    private static final Pattern ROW =
            Pattern.compile("(x|Checks)\\.([a-z]+)\\((.*)\\); *// ([^ :]+)(:.*)?");

    private ReadmeTest() {
    }

    public static void main(String[] args) throws Exception {
        String text = Files.readString(Path.of("README.md"));
        examples(text);
        calls(text);
        Checks.close();
    }

    private static void examples(String text) {
        ScarArmy x = null;
        boolean inside = false;
        int rows = 0;
        for (String line : text.split("\n")) {
            if (line.startsWith("```")) {
                inside = line.equals("```java");
            } else if (inside && line.equals("ScarArmy x = new ScarArmy();")) {
                x = new ScarArmy();
            } else if (inside) {
                Matcher row = ROW.matcher(line);
                Checks.due("an example's row: " + line, true, row::matches);
                if (row.matches()) {
                    ScarArmy on = x;
                    Checks.due(line, row.group(4), () -> answer(on, row));
                    rows++;
                }
            }
        }
        int found = rows;
        Checks.due("rows of examples", true, () -> found >= 10);
    }

    private static Object answer(ScarArmy x, Matcher row) throws Exception {
        String name = row.group(2);
        if (row.group(1).equals("Checks")) {
            String told = row.group(3).replaceAll("^x, \"|\"$", "");
            return name.equals("law") ? Checks.law(x, told) : Checks.army(x, told);
        }
        for (Method m : ScarArmy.class.getDeclaredMethods()) {
            if (m.getName().equals(name)) {
                return invoked(x, m, row.group(3).trim());
            }
        }
        return "no such call";
    }

    private static Object invoked(ScarArmy x, Method m, String told) throws Exception {
        String[] words = told.isEmpty() ? new String[0] : told.split(", *");
        Object[] args = new Object[words.length];
        for (int i = 0; i < words.length; i++) {
            boolean truth = m.getParameterTypes()[i] == boolean.class;
            args[i] = truth ? (Object) Boolean.valueOf(words[i]) : (Object) Integer.decode(words[i]);
        }
        try {
            return m.invoke(x, args);
        } catch (InvocationTargetException e) {
            throw (Exception) e.getCause();
        }
    }

    private static void calls(String text) {
        for (Method m : ScarArmy.class.getDeclaredMethods()) {
            if (Modifier.isPublic(m.getModifiers())) {
                Checks.due("README.md names " + m.getName(), true, () -> text.contains("`" + m.getName() + "`"));
            }
        }
    }
}
