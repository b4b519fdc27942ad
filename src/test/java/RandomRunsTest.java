import java.lang.reflect.InvocationTargetException;
import java.lang.reflect.Method;
import java.lang.reflect.Modifier;
import java.util.ArrayList;
import java.util.Comparator;
import java.util.List;
import java.util.Random;

/** Random runs of at most 512 calls on the class and on the model: every answer must be the same. */
public final class RandomRunsTest {
    private static final int LAST_CALL = 512;
    /** A text of 400 bytes, with what cuts it, reads it and asks for its fault. */
    private static final int LONGEST_STEP = 24 + 13;
    private static final int RUNS = Integer.getInteger("runs", 600);
    private static final List<String> ACTS = List.of("hand", "hand", "hand", "hand", "polish", "polish",
            "wound", "wound", "days", "market", "market", "widow", "widow", "die");
    private final List<Method> methods = new ArrayList<>();
    private final Random random;
    private final ScarArmy x = new ScarArmy();
    private final Model y = new Model();
    private final List<String> told = new ArrayList<>();
    private int calls = 0;
    private final boolean wild;

    private RandomRunsTest(long start) {
        random = new Random(start);
        wild = random.nextInt(4) == 0;
        for (Method m : ScarArmy.class.getDeclaredMethods()) {
            if (Modifier.isPublic(m.getModifiers())) {
                methods.add(m);
            }
        }
        methods.sort(Comparator.comparing(Method::getName));
    }

    public static void main(String[] args) throws Exception {
        long wrong = 0;
        long calls = 0;
        for (int run = 0; run < RUNS; run++) {
            RandomRunsTest test = new RandomRunsTest(run * 7919L + 13);
            if (!test.run()) {
                wrong++;
                System.out.println("run " + run + " differs: " + String.join("\n  ", test.told));
                if (wrong > 2) {
                    break;
                }
            }
            calls += test.calls;
        }
        System.out.println(calls + " calls, " + wrong + " runs wrong");
        if (wrong != 0) {
            System.exit(1);
        }
    }

    private int below(int n) {
        return random.nextInt(n);
    }

    private boolean run() throws Exception {
        int texts = below(4) == 0 ? 6 : 1 + below(4);
        for (int i = 0; i < texts; i++) {
            if (!text(armyText(i == 0)) || !call("army")) {
                return false;
            }
        }
        // now and then near the last day that there is
        for (int late = below(10) == 0 ? 24 : 0; late > 0; late--) {
            if (!call("days", 400)) {
                return false;
            }
        }
        while (calls < LAST_CALL - LONGEST_STEP) {
            int kind = below(100);
            boolean same;
            if (kind < 4) {
                same = text(below(3) == 0 ? spoil(armyText(false)) : armyText(false)) && call("army");
            } else if (kind < 9) {
                String law = lawText();
                same = text(below(3) == 0 ? spoil(law) : law) && call("law") && call("fault");
            } else if (kind < 14) {
                same = enemies();
            } else if (kind < 50) {
                same = call(ACTS.get(below(ACTS.size())));
            } else {
                same = any(methods.get(below(methods.size())));
            }
            if (!same) {
                return false;
            }
        }
        return everything();
    }

    private boolean call(String name, Object... args) throws Exception {
        for (Method m : methods) {
            if (m.getName().equals(name)) {
                return args.length == 0 && m.getParameterCount() > 0 ? any(m) : both(m, args);
            }
        }
        throw new IllegalStateException(name);
    }

    private boolean both(Method m, Object[] args) throws Exception {
        calls++;
        String got = answer(m, x, args);
        String due = answer(Model.class.getMethod(m.getName(), m.getParameterTypes()), y, args);
        StringBuilder line = new StringBuilder(m.getName());
        for (Object a : args) {
            line.append(' ').append(a);
        }
        told.add(line + " = " + got + (got.equals(due) ? "" : ", due " + due));
        return got.equals(due);
    }

    private static String answer(Method m, Object on, Object[] args) throws Exception {
        try {
            return String.valueOf(m.invoke(on, args));
        } catch (InvocationTargetException e) {
            return "throws." + e.getCause().getClass().getName();
        }
    }

    private boolean any(Method m) throws Exception {
        String name = m.getName();
        if (List.of("back", "feed", "die").contains(name) && below(3) != 0) {
            return true;
        }
        Object[] args = new Object[m.getParameterCount()];
        for (int i = 0; i < args.length; i++) {
            args[i] = m.getParameterTypes()[i] == boolean.class ? (Object) random.nextBoolean()
                    : (Object) number(name, i);
        }
        return both(m, args);
    }

    private int number(String name, int i) {
        if (below(wild ? 6 : 60) == 0) {
            int[] odd = {-1, -2, 0, 24, 10, 8, 12, 31, 400, 401, 999, 1000, 9999, 10000, Integer.MAX_VALUE,
                Integer.MIN_VALUE};
            return odd[below(odd.length)];
        }
        switch (name + i) {
            case "end0": return below(60);
            case "feed0": return random.nextInt();
            case "battle0": case "wound2": return below(Math.max(1, y.count(0)));
            case "battle1": return below(7);
            case "man1": return below(8);
            case "scar1": return below(11);
            case "man0": case "who0": case "hand1": case "die0": case "widow0": case "widow1": case "wound4":
            case "largest0": case "betrays0": case "least0": case "gains0": case "after0": case "shared0":
            case "shared1": return below(Math.max(1, y.count(1)));
            case "scar0": case "hand0": case "polish0": case "gains1": case "buyer0": case "hands0":
            case "led0": return below(Math.max(1, y.count(2)));
            case "hand2": return below(4) == 0 ? below(2000) : below(30);
            case "polish1": case "polished0": return below(3);
            case "wound0": return below(12);
            case "wound1": return below(6);
            case "wound3": return 1 + below(9);
            case "days0": case "after1": return below(5) == 0 ? 1 + below(400) : 1 + below(40);
            case "market0": case "trial0": case "span0": return below(31);
            case "his0": return below(2) == 0 ? 1 << below(24) | 1 << below(24) : random.nextInt();
            case "route0": return random.nextInt();
            case "least1": return below(80);
            case "enemies0": return below(6) - 1;
            case "turn0": return below(1024);
            case "turn1": return 1 + below(30);
            case "turn2": return below(10000);
            case "turn3": return below(12) - 1;
            case "hands1": return below(8);
            case "log0": return below(70);
            case "log1": return below(5);
            case "seed0": return random.nextInt();
            case "count0": return below(12);
            default: return below(12);
        }
    }

    private boolean text(String text) throws Exception {
        if (!call("end", 0)) {
            return false;
        }
        for (int at = 0; at < text.length(); at += 20) {
            Object[] n = new Object[5];
            for (int i = 0; i < 5; i++) {
                int v = 0;
                for (int j = 0; j < 4; j++) {
                    int k = at + 4 * i + j;
                    v = v << 8 | (k < text.length() ? text.charAt(k) : 0);
                }
                n[i] = v;
            }
            if (!call("feed", n)) {
                return false;
            }
        }
        told.add("  text: " + text);
        return call("end", text.length());
    }

    private boolean enemies() throws Exception {
        StringBuilder told = new StringBuilder();
        int n = below(8) == 0 ? below(13) : below(11);
        for (int i = 0; i < n; i++) {
            if (y.count(2) > 0 && below(8) != 0) {
                int scar = below(y.count(2));
                told.append((char) y.scar(scar, 0)).append((char) y.scar(scar, 1));
            } else {
                told.append((char) below(wild ? 14 : 12)).append((char) below(wild ? 8 : 6));
            }
        }
        if (below(12) == 0) {
            told.append((char) below(6));
        }
        return text(told.toString()) && call("enemies", below(2) == 0 ? -1 : below(n + 1));
    }

    private String spoil(String text) {
        StringBuilder s = new StringBuilder(text);
        int times = 1 + below(2);
        for (int i = 0; i < times && s.length() > 0; i++) {
            int at = below(s.length());
            switch (below(5)) {
                case 0: s.deleteCharAt(at); break;
                case 1: s.setCharAt(at, (char) below(256)); break;
                case 2: s.insert(at, "0123456789;()<>+ abzn".charAt(below(21))); break;
                case 3: s.setLength(at); break;
                default: s.insert(at, new String[] {"not ", "and", " or ", "man", ";", "own", "100", "1234", "by 0"}[below(9)]);
            }
        }
        s.setLength(Math.min(s.length(), 400));
        return s.toString();
    }

    private String gap() {
        return below(10) == 0 ? "   ".substring(below(3)) : " ";
    }

    private String armyText(boolean first) {
        StringBuilder s = new StringBuilder();
        int battles = y.count(0);
        int men = y.count(1);
        int scars = y.count(2);
        int lines = below(30) == 0 ? 15 : below(20) == 0 ? 0 : 3 + below(12);
        for (int i = 0; i < lines; i++) {
            int kind = first && i < 5 ? below(2) : below(10);
            StringBuilder line = new StringBuilder();
            if (kind == 0 && (battles < 8 || wild && below(5) == 0)) {
                line.append("battle" + gap() + below(10) + gap() + "day " + below(below(2) == 0 ? 30 : 1000) + " with");
                for (int w = below(3); w >= 0; w--) {
                    line.append(gap() + below(6));
                }
                battles++;
            } else if (kind == 1 && (men < 10 || wild && below(5) == 0)) {
                line.append("man " + (below(4) == 0 ? 9000 + below(1000) : below(300)));
                men++;
            } else if (kind < 8 && battles > 0 && men > 0 && (scars < 24 || wild && below(5) == 0)) {
                line.append("scar " + below(below(2) == 0 ? 4 : 12) + " of " + below(6) + " in" + gap() + below(battles)
                        + " depth " + (1 + below(9)) + " on " + below(men));
                if (below(3) == 0) {
                    line.append(" by " + below(men));
                }
                scars++;
            } else if (kind == 8 && scars > 0) {
                line.append("told " + below(scars) + gap() + below(10));
            } else if (men > 0 && below(6) == 0) {
                line.append("dead " + below(men));
            } else {
                line.append("today " + below(below(3) == 0 ? 1000 : 60));
            }
            if (s.length() + line.length() + 3 > 400) {
                break;
            }
            s.append(s.length() > 0 ? below(5) == 0 ? " ; " : ";" : "").append(line);
        }
        return s.toString();
    }

    private String lawText() {
        StringBuilder s = new StringBuilder();
        int lines = below(20) == 0 ? 0 : below(20) == 0 ? 13 : 1 + below(7);
        for (int i = 0; i < lines; i++) {
            int kind = below(10);
            String line = kind < 6 ? "worth " + below(below(3) == 0 ? 100 : 12) : kind < 9 ? "less " + below(8) : "void";
            if (below(5) != 0 || kind == 9) {
                line += " if " + condition(0);
            }
            if (s.length() + line.length() + 1 > 400) {
                break;
            }
            s.append(s.length() > 0 ? ";" : "").append(line);
        }
        return s.toString();
    }

    private String condition(int deep) {
        StringBuilder s = new StringBuilder(atom(deep));
        for (int more = below(below(3) + 1); more > 0; more--) {
            s.append(below(2) == 0 ? " and " : " or ").append(atom(deep));
        }
        return s.toString();
    }

    private String atom(int deep) {
        int kind = below(8);
        if (deep < (wild ? 8 : 6)) {
            if (kind == 0) {
                return "not " + atom(deep + 1);
            }
            if (kind == 1) {
                return "(" + condition(deep + 1) + ")";
            }
        }
        if (kind < 4) {
            return new String[] {"own", "fits", "ear"}[below(3)];
        }
        return sum() + (below(2) == 0 ? "<" : " > ") + sum();
    }

    private String sum() {
        StringBuilder s = new StringBuilder(part());
        for (int more = below(below(2) + 1); more > 0; more--) {
            s.append("+").append(part());
        }
        return s.toString();
    }

    private String part() {
        int kind = below(10);
        return kind < 3 ? String.valueOf(below(kind == 0 ? 1000 : 12))
                : new String[] {"place", "weapon", "battle", "depth", "told", "days", "bearer"}[kind - 3];
    }

    /** What is counted at the end of a run, and anything else up to the last call. */
    private boolean everything() throws Exception {
        boolean same = true;
        for (int what = -1; what < 12 && calls < LAST_CALL; what++) {
            same = same && call("count", what);
        }
        while (same && calls < LAST_CALL) {
            same = any(methods.get(below(methods.size())));
        }
        return same;
    }
}
