import java.util.ArrayList;
import java.util.List;
import java.util.concurrent.Callable;
import java.util.function.Consumer;
import java.util.function.Supplier;

/**
 * All that can be asked of a state but for fault(): also the tape, the image and what undoing leads
 * to. Each group of questions is asked of an object of its own, made anew by the same calls, as an
 * object has 512 calls and some of the questions change it.
 */
final class Whole {
    private static final int ACTS = 12;
    private final List<String> answers = new ArrayList<>();

    private Whole() {
    }

    static List<String> of(Supplier<ScarArmy> made) {
        Whole whole = new Whole();
        whole.few(made.get());
        whole.battles(made.get());
        whole.men(made.get());
        whole.scars(made.get());
        whole.log(made.get());
        whole.hands(made.get());
        for (int acts = 1; acts <= ACTS + 1; acts++) {
            whole.undone(made.get(), acts);
        }
        ScarArmy back = made.get();
        whole.ask("back", back::back);
        whole.few(back);
        ScarArmy men = made.get();
        men.back();
        whole.men(men);
        whole.tape(made.get());
        return whole.answers;
    }

    /** What the first has and the second has not so, in words; empty if they are the same. */
    static String difference(List<String> got, List<String> due) {
        StringBuilder told = new StringBuilder();
        for (int i = 0; i < Math.max(got.size(), due.size()) && told.length() < 300; i++) {
            String one = i < got.size() ? got.get(i) : "nothing";
            String other = i < due.size() ? due.get(i) : "nothing";
            if (!one.equals(other)) {
                told.append(one).append(" in place of ").append(other).append("; ");
            }
        }
        return told.toString();
    }

    /** All that can be asked behind a call on an object that was made so. */
    static List<String> behind(Supplier<ScarArmy> made, Consumer<ScarArmy> call) {
        return of(() -> {
            ScarArmy x = made.get();
            call.accept(x);
            return x;
        });
    }

    private void ask(String what, Callable<?> call) {
        answers.add(what + " = " + Checks.answer(call));
    }

    private void few(ScarArmy x) {
        for (int what = 0; what < 11; what++) {
            int w = what;
            ask("count " + w, () -> x.count(w));
        }
        ask("swaps", x::swaps);
        ask("fewest", x::fewest);
        ask("sergeant", x::sergeant);
        ask("bargain", () -> x.bargain(false));
        ask("mourned", x::mourned);
        ask("campaign", () -> x.campaign(true));
        ask("voids", x::voids);
        ask("lies", x::lies);
        ask("crosswise", x::crosswise);
        for (int trade = 0; trade < 3; trade++) {
            int t = trade;
            ask("polished " + t, () -> x.polished(t));
        }
        for (int man = 0; man < 10; man++) {
            int m = man;
            ask("looks " + m, () -> x.man(m, 4));
        }
        ask("seed", () -> x.seed(0));
    }

    private void battles(ScarArmy x) {
        for (int i = 0; i < 8 * 7; i++) {
            int battle = i / 7;
            int what = i % 7;
            ask("battle " + battle + " " + what, () -> x.battle(battle, what));
        }
    }

    private void men(ScarArmy x) {
        for (int i = 0; i < 10 * 8; i++) {
            int man = i / 8;
            int what = i % 8;
            ask("man " + man + " " + what, () -> x.man(man, what));
        }
    }

    private void scars(ScarArmy x) {
        for (int i = 0; i < 24 * 11; i++) {
            int scar = i / 11;
            int what = i % 11;
            ask("scar " + scar + " " + what, () -> x.scar(scar, what));
        }
    }

    private void log(ScarArmy x) {
        for (int i = 0; i < 61 * 5; i++) {
            int ago = i / 5;
            int what = i % 5;
            ask("log " + ago + " " + what, () -> x.log(ago, what));
        }
    }

    private void hands(ScarArmy x) {
        for (int i = 0; i < 24 * 6; i++) {
            int scar = i / 6;
            int k = i % 6;
            ask("hands " + scar + " " + k, () -> x.hands(scar, k));
        }
    }

    private void undone(ScarArmy x, int acts) {
        for (int i = 0; i < acts; i++) {
            ask("undo " + i + " of " + acts, x::undo);
        }
        few(x);
        men(x);
    }

    /** How long it is, and what its bytes say as a text. */
    private void tape(ScarArmy x) {
        int behind = x.feed(0, 0, 0, 0, 0);
        for (int n = behind < 0 ? 400 : behind - 20; n >= 0; n--) {
            if (x.end(n)) {
                answers.add("tape " + n);
                break;
            }
        }
        ask("its text", x::army);
        ask("its fault", x::fault);
        men(x);
    }
}
