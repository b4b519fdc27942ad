import java.lang.reflect.InvocationTargetException;
import java.lang.reflect.Method;
import java.lang.reflect.Modifier;
import java.util.ArrayList;
import java.util.List;
import java.util.function.Supplier;

/**
 * Every call with every kind of number on armies from none to full: what is thrown is one of the
 * exceptions that the document lists for the call, thrown by the class itself and not by the machine.
 */
public final class ThrownTest {
    private static final int[] MANY = {Integer.MIN_VALUE, -1000, -2, -1, 0, 1, 2, 3, 5, 6, 7, 8, 9, 10, 11, 12, 23, 24, 30, 31, 32,
        60, 400, 401, 999, 1000, 9999, 10000, 65536, Integer.MAX_VALUE};
    private static final int[] FEW = {Integer.MIN_VALUE, -1, 0, 1, 5, 9, 12, 30, 9999, Integer.MAX_VALUE};
    private static final int CALLS = 350;

    private ThrownTest() {
    }

    public static void main(String[] args) throws Exception {
        List<Supplier<ScarArmy>> armies = new ArrayList<>();
        armies.add(ScarArmy::new);
        armies.add(() -> Checks.with("man 9999"));
        armies.add(() -> Checks.with("battle 9 day 999 with 5"));
        armies.add(Checks::first);
        armies.add(ThrownTest::full);
        armies.add(() -> {
            ScarArmy x = full();
            Checks.army(x, "dead 0;dead 1;dead 2;dead 3;dead 4;dead 5;dead 6;dead 7;dead 8;dead 9");
            return x;
        });
        for (int i = 0; i < armies.size(); i++) {
            for (Method m : ScarArmy.class.getDeclaredMethods()) {
                if (Modifier.isPublic(m.getModifiers())) {
                    Supplier<ScarArmy> army = armies.get(i);
                    Checks.due(m.getName() + " on army " + i, "", () -> allCalls(army, m));
                }
            }
        }
        Checks.close();
    }

    private static ScarArmy full() {
        ScarArmy x = Checks.with("man 9999" + ";man 50".repeat(9), "battle 1 day 2 with 3;".repeat(7) + "battle 1 day 1 with 1");
        for (int scar = 0; scar < 24; scar++) {
            x.wound(scar % 12, scar % 6, scar % 8, 1 + scar % 9, scar % 10);
        }
        for (int n = 0; n < 61; n++) {
            x.hand(0, 1 - n % 2, 0);
        }
        Checks.law(x, "worth 9 if own or days > 3;less 1 if ear;void if bearer > 7 and depth > 5");
        return x;
    }

    /** What was thrown that must not be, in words. */
    private static String allCalls(Supplier<ScarArmy> army, Method m) throws Exception {
        StringBuilder told = new StringBuilder();
        int[] numbers = m.getParameterCount() > 2 ? FEW : MANY;
        int ways = 1;
        for (Class<?> type : m.getParameterTypes()) {
            ways *= type == boolean.class ? 2 : numbers.length;
        }
        ScarArmy x = army.get();
        for (int way = 0; way < ways && told.length() < 300; way += ways > 5000 ? 7 : 1) {
            Object[] values = new Object[m.getParameterCount()];
            int rest = way;
            for (int i = 0; i < values.length; i++) {
                boolean truth = m.getParameterTypes()[i] == boolean.class;
                int size = truth ? 2 : numbers.length;
                values[i] = truth ? (Object) (rest % size == 0) : (Object) numbers[rest % size];
                rest /= size;
            }
            if (way % CALLS == 0) {
                x = army.get();
            }
            told.append(oneCall(x, m, values));
        }
        return told.toString();
    }

    private static String oneCall(ScarArmy x, Method m, Object[] values) throws Exception {
        try {
            m.invoke(x, values);
            return "";
        } catch (InvocationTargetException e) {
            Throwable thrown = e.getCause();
            boolean own = thrown.getStackTrace()[0].getClassName().startsWith("ScarArmy");
            boolean listed = List.of(m.getExceptionTypes()).contains(thrown.getClass());
            return own && listed ? "" : List.of(values) + " threw " + thrown + "; ";
        }
    }
}
