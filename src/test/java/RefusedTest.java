import java.util.ArrayList;
import java.util.List;
import java.util.function.Function;

/**
 * Every call that is refused: which exception it is, the one that is told first of several, and that
 * all is as ahead of it. And every question: that nothing stays of it.
 */
public final class RefusedTest {
    private static final int LOW = Integer.MIN_VALUE;
    private static final int HIGH = Integer.MAX_VALUE;
    /** On the tape of the army that is asked: no enemies, as it is half of one too long. */
    private static final String LEFT = "man 7";

    private final List<String> unchanged = Whole.of(RefusedTest::some);
    private final List<String> usedUp = Whole.behind(RefusedTest::some, x -> x.end(0));

    private RefusedTest() {
    }

    public static void main(String[] args) {
        Checks.sentence("Of several exceptions the one told first is thrown; a call that throws changes nothing but the TAPE, "
                + "where it is used up.");
        RefusedTest test = new RefusedTest();
        test.ofBattlesMenScars();
        test.ofHand();
        test.ofPolishAndDie();
        test.ofWidow();
        test.ofWound();
        test.ofDaysAndSales();
        test.ofQuestionsOfMen();
        test.ofTurns();
        test.ofScarsAndLog();
        test.ofTheTape();
        test.ofNothingThatHappens();
        test.ofTextsThatAreWrong();
        test.ofFull();
        test.whatIsAskedLeavesNothing();
        Checks.close();
    }

    /**
     * Four battles, five men (3 and 4 dead; 0 and 1, 2 and 3 by one another's names), six scars, a
     * law, an image of other days, acts that can be undone, a fault of a text, and a tape.
     */
    private static ScarArmy some() {
        ScarArmy x = Checks.with("battle 2 day 10 with 0 1;battle 5 day 12 with 2;battle 3 day 20 with 0;battle 9 day 999 with 5;"
                + "man 100;man 50;man 0;man 30;man 9;today 25",
                "scar 0 of 0 in 0 depth 3 on 0;scar 2 of 1 in 0 depth 2 on 0;scar 3 of 2 in 1 depth 5 on 1;"
                + "scar 2 of 0 in 2 depth 1 on 2 by 0;scar 0 of 4 in 2 depth 2 on 2;scar 11 of 5 in 3 depth 9 on 3;dead 4");
        Checks.law(x, "worth 2 if depth > 1;worth 3;void if not own and depth > 4");
        x.image();
        x.seed(77);
        x.hand(3, 1, 4);
        x.hand(5, 2, 0);
        x.polish(1, 2);
        x.days(9);
        x.die(2);
        Checks.lawFault(x, "worth 2;less");
        Checks.tape(x, LEFT);
        return x;
    }

    private void refused(String what, String due, Function<ScarArmy, Object> call) {
        refused(what, due, call, unchanged);
    }

    private void refused(String what, String due, Function<ScarArmy, Object> call, List<String> left) {
        ScarArmy x = some();
        Checks.due(what, due, () -> call.apply(x));
        Checks.due("left of " + what, "", () -> Whole.difference(
                Whole.behind(RefusedTest::some, y -> Checks.answer(() -> call.apply(y))), left));
    }

    private void ofBattlesMenScars() {
        for (int none : new int[] {LOW, -1, 4, 5, HIGH}) {
            for (int what : new int[] {-1, 0, 6, 7, LOW, HIGH}) {
                refused("battle(" + none + ", " + what + ")", Checks.OUT, x -> x.battle(none, what));
            }
        }
        for (int none : new int[] {LOW, -1, 5, 6, HIGH}) {
            for (int what : new int[] {-1, 0, 7, 8, LOW, HIGH}) {
                refused("man(" + none + ", " + what + ")", Checks.OUT, x -> x.man(none, what));
            }
            refused("who(" + none + ")", Checks.OUT, x -> x.who(none));
        }
        for (int none : new int[] {LOW, -1, 6, 7, HIGH}) {
            for (int what : new int[] {-1, 0, 10, 11, LOW, HIGH}) {
                refused("scar(" + none + ", " + what + ")", Checks.OUT, x -> x.scar(none, what));
            }
        }
        for (int what : new int[] {LOW, -1, HIGH}) {
            refused("battle(0, " + what + ")", Checks.NO_SUCH, x -> x.battle(0, what));
            refused("man(0, " + what + ")", Checks.NO_SUCH, x -> x.man(0, what));
            refused("scar(0, " + what + ")", Checks.NO_SUCH, x -> x.scar(0, what));
            refused("log(0, " + what + ")", Checks.NO_SUCH, x -> x.log(0, what));
        }
        refused("battle(3, 7)", Checks.NO_SUCH, x -> x.battle(3, 7));
        refused("man(4, 8)", Checks.NO_SUCH, x -> x.man(4, 8));
        refused("scar(5, 11)", Checks.NO_SUCH, x -> x.scar(5, 11));
        refused("log(0, 5)", Checks.NO_SUCH, x -> x.log(0, 5));
        refused("log(-1, 5)", Checks.NO_SUCH, x -> x.log(-1, 5));
        refused("log(99, -1)", Checks.NO_SUCH, x -> x.log(99, -1));
    }

    private void ofHand() {
        Object[][] rows = {{-1, 1, 0, Checks.OUT}, {6, 1, 0, Checks.OUT}, {LOW, 1, 0, Checks.OUT}, {HIGH, 1, 0, Checks.OUT},
            {0, -1, 0, Checks.OUT}, {0, 5, 0, Checks.OUT}, {0, LOW, 0, Checks.OUT}, {0, HIGH, 0, Checks.OUT},
            {6, 5, -1, Checks.OUT}, {-1, 0, 10000, Checks.OUT}, {0, 5, 10000, Checks.OUT}, {0, -1, -1, Checks.OUT},
            {0, 1, -1, Checks.WRONG}, {0, 1, 10000, Checks.WRONG}, {0, 1, LOW, Checks.WRONG}, {0, 1, HIGH, Checks.WRONG},
            {0, 0, 0, Checks.WRONG}, {0, 0, -1, Checks.WRONG}, {0, 0, 9999, Checks.WRONG}, {0, 3, -1, Checks.WRONG},
            {0, 3, 10000, Checks.WRONG}, {5, 2, 0, Checks.WRONG}, {0, 3, 0, Checks.STATE}, {0, 4, 0, Checks.STATE},
            {0, 4, 9, Checks.STATE}, {0, 1, 57, Checks.STATE}, {0, 1, 9999, Checks.STATE}, {0, 2, 1, Checks.STATE}};
        for (Object[] r : rows) {
            refused("hand(" + r[0] + ", " + r[1] + ", " + r[2] + ")", (String) r[3],
                    x -> x.hand((int) r[0], (int) r[1], (int) r[2]));
        }
        Checks.due("all that one has", 0, () -> some().hand(0, 1, 56));
    }

    private void ofPolishAndDie() {
        for (int none : new int[] {LOW, -1, 6, HIGH}) {
            refused("polish(" + none + ", 0)", Checks.OUT, x -> x.polish(none, 0));
            refused("polish(" + none + ", 3)", Checks.OUT, x -> x.polish(none, 3));
        }
        for (int none : new int[] {LOW, -1, 3, 32, 34, HIGH}) {
            refused("polish(1, " + none + ")", Checks.OUT, x -> x.polish(1, none));
            refused("polished(" + none + ")", Checks.OUT, x -> x.polished(none));
        }
        refused("polish(1, 2)", Checks.STATE, x -> x.polish(1, 2));
        for (int none : new int[] {LOW, -1, 5, HIGH}) {
            refused("die(" + none + ")", Checks.OUT, x -> x.die(none));
        }
        refused("die(2), the name of 3", Checks.STATE, x -> x.die(2));
        refused("die(4)", Checks.STATE, x -> x.die(4));
        Checks.due("die(3), the name of 2", 2, () -> some().die(3));
    }

    private void ofWidow() {
        Object[][] rows = {{-1, 0, Checks.OUT}, {5, 0, Checks.OUT}, {LOW, 0, Checks.OUT}, {HIGH, 0, Checks.OUT},
            {3, -1, Checks.OUT}, {3, 5, Checks.OUT}, {3, LOW, Checks.OUT}, {3, HIGH, Checks.OUT}, {-1, -1, Checks.OUT},
            {5, 5, Checks.OUT}, {0, 0, Checks.WRONG}, {3, 3, Checks.WRONG}, {0, 1, Checks.STATE}, {3, 4, Checks.STATE},
            {0, 3, Checks.STATE}};
        for (Object[] r : rows) {
            refused("widow(" + r[0] + ", " + r[1] + ")", (String) r[2], x -> x.widow((int) r[0], (int) r[1]));
        }
    }

    private void ofWound() {
        Object[][] rows = {{-1, 0, 0, 1, 0, Checks.OUT}, {12, 0, 0, 1, 0, Checks.OUT}, {LOW, 0, 0, 1, 0, Checks.OUT},
            {HIGH, 0, 0, 1, 0, Checks.OUT}, {0, -1, 0, 1, 0, Checks.OUT}, {0, 6, 0, 1, 0, Checks.OUT},
            {0, LOW, 0, 1, 0, Checks.OUT}, {0, HIGH, 0, 1, 0, Checks.OUT}, {0, 0, -1, 1, 0, Checks.OUT},
            {0, 0, 4, 1, 0, Checks.OUT}, {0, 0, LOW, 1, 0, Checks.OUT}, {0, 0, HIGH, 1, 0, Checks.OUT},
            {0, 0, 0, 1, -1, Checks.OUT}, {0, 0, 0, 1, 5, Checks.OUT}, {0, 0, 0, 1, LOW, Checks.OUT},
            {0, 0, 0, 1, HIGH, Checks.OUT}, {12, 0, 0, 0, 0, Checks.OUT}, {0, 6, 0, 10, 0, Checks.OUT},
            {0, 0, 4, 0, 3, Checks.OUT}, {0, 0, 0, 0, 5, Checks.OUT}, {12, 0, 0, 1, 3, Checks.OUT},
            {0, 0, 0, 0, 0, Checks.WRONG}, {0, 0, 0, 10, 0, Checks.WRONG}, {0, 0, 0, LOW, 0, Checks.WRONG},
            {0, 0, 0, HIGH, 0, Checks.WRONG}, {0, 0, 0, 0, 3, Checks.WRONG}, {0, 0, 0, 10, 4, Checks.WRONG},
            {0, 0, 0, 1, 3, Checks.STATE}, {11, 5, 3, 9, 4, Checks.STATE}};
        for (Object[] r : rows) {
            refused("wound(" + r[0] + ", " + r[1] + ", " + r[2] + ", " + r[3] + ", " + r[4] + ")", (String) r[5],
                    x -> x.wound((int) r[0], (int) r[1], (int) r[2], (int) r[3], (int) r[4]));
        }
    }

    private void ofDaysAndSales() {
        for (int n : new int[] {LOW, -1, 0, 401, HIGH}) {
            refused("days(" + n + ")", Checks.WRONG, x -> x.days(n));
        }
        for (int n : new int[] {LOW, -1, 31, HIGH}) {
            refused("market(" + n + ")", Checks.WRONG, x -> x.market(n));
            refused("trial(" + n + ", true)", Checks.WRONG, x -> x.trial(n, true));
            refused("trial(" + n + ", false)", Checks.WRONG, x -> x.trial(n, false));
            refused("span(" + n + ", true)", Checks.WRONG, x -> x.span(n, true));
            refused("span(" + n + ", false)", Checks.WRONG, x -> x.span(n, false));
        }
    }

    private void ofQuestionsOfMen() {
        for (int none : new int[] {LOW, -1, 5, HIGH}) {
            refused("largest(" + none + ", true)", Checks.OUT, x -> x.largest(none, true));
            refused("largest(" + none + ", false)", Checks.OUT, x -> x.largest(none, false));
            refused("betrays(" + none + ")", Checks.OUT, x -> x.betrays(none));
            refused("least(" + none + ", 0, true)", Checks.OUT, x -> x.least(none, 0, true));
            refused("least(" + none + ", 1000, false)", Checks.OUT, x -> x.least(none, 1000, false));
            refused("gains(" + none + ", 0)", Checks.OUT, x -> x.gains(none, 0));
            refused("gains(" + none + ", 6)", Checks.OUT, x -> x.gains(none, 6));
            refused("after(" + none + ", 0)", Checks.OUT, x -> x.after(none, 0));
            refused("after(" + none + ", 401)", Checks.OUT, x -> x.after(none, 401));
            refused("shared(" + none + ", 0)", Checks.OUT, x -> x.shared(none, 0));
            refused("shared(0, " + none + ")", Checks.OUT, x -> x.shared(0, none));
            refused("shared(" + none + ", " + none + ")", Checks.OUT, x -> x.shared(none, none));
        }
        for (int n : new int[] {LOW, -1, 1000, HIGH}) {
            refused("least(0, " + n + ", true)", Checks.WRONG, x -> x.least(0, n, true));
            refused("least(3, " + n + ", false), dead", Checks.WRONG, x -> x.least(3, n, false));
        }
        refused("least(3, 0, false), dead", Checks.STATE, x -> x.least(3, 0, false));
        refused("least(4, 999, true), dead", Checks.STATE, x -> x.least(4, 999, true));
        for (int n : new int[] {LOW, -1, 401, HIGH}) {
            refused("after(0, " + n + ")", Checks.WRONG, x -> x.after(0, n));
        }
        refused("shared(0, 0)", Checks.WRONG, x -> x.shared(0, 0));
        refused("shared(4, 4)", Checks.WRONG, x -> x.shared(4, 4));
    }

    private void ofTurns() {
        for (int none : new int[] {LOW, -2, 5, HIGH}) {
            refused("turn(7, 1, 0, " + none + ")", Checks.OUT, x -> x.turn(7, 1, 0, none));
            refused("turn(7, 0, -1, " + none + ")", Checks.OUT, x -> x.turn(7, 0, -1, none));
        }
        for (int man : new int[] {-1, 0, 4}) {
            for (int n : new int[] {LOW, -1, 0, 31, HIGH}) {
                refused("turn(7, " + n + ", 0, " + man + ")", Checks.WRONG, x -> x.turn(7, n, 0, man));
            }
            for (int day : new int[] {LOW, -1, 10000, HIGH}) {
                refused("turn(7, 1, " + day + ", " + man + ")", Checks.WRONG, x -> x.turn(7, 1, day, man));
            }
            refused("turn(0, 0, 0, " + man + ")", Checks.WRONG, x -> x.turn(0, 0, 0, man));
        }
    }

    private void ofScarsAndLog() {
        for (int none : new int[] {LOW, -1, 6, HIGH}) {
            refused("gains(0, " + none + ")", Checks.OUT, x -> x.gains(0, none));
            refused("buyer(" + none + ")", Checks.OUT, x -> x.buyer(none));
            refused("hands(" + none + ", 0)", Checks.OUT, x -> x.hands(none, 0));
            refused("hands(" + none + ", -1)", Checks.OUT, x -> x.hands(none, -1));
            refused("led(" + none + ", true)", Checks.OUT, x -> x.led(none, true));
            refused("led(" + none + ", false)", Checks.OUT, x -> x.led(none, false));
        }
        for (int k : new int[] {LOW, -1}) {
            refused("hands(0, " + k + ")", Checks.WRONG, x -> x.hands(0, k));
        }
    }

    /** Bytes in place of the tape's, and what enemies answers of them. */
    private static Object enemies(ScarArmy x, int enemy, int... told) {
        x.end(0);
        return Checks.enemies(x, enemy, told);
    }

    private void ofTheTape() {
        refused("enemies of a text", Checks.WRONG, x -> x.enemies(-1), usedUp);
        refused("half an enemy", Checks.WRONG, x -> enemies(x, -1, 0), usedUp);
        refused("one and a half", Checks.WRONG, x -> enemies(x, -1, 0, 0, 0), usedUp);
        refused("ten and a half", Checks.WRONG, x -> enemies(x, -1, new int[21]), usedUp);
        refused("eleven", Checks.WRONG, x -> enemies(x, -1, new int[22]), usedUp);
        refused("200", Checks.WRONG, x -> enemies(x, -1, new int[400]), usedUp);
        refused("place 12", Checks.WRONG, x -> enemies(x, -1, 12, 0), usedUp);
        refused("place 255", Checks.WRONG, x -> enemies(x, -1, 255, 0), usedUp);
        refused("weapon 6", Checks.WRONG, x -> enemies(x, -1, 0, 6), usedUp);
        refused("weapon 128", Checks.WRONG, x -> enemies(x, -1, 0, 128), usedUp);
        int[] last = new int[20];
        last[19] = 6;
        refused("the weapon of the tenth", Checks.WRONG, x -> enemies(x, 0, last), usedUp);
        for (int enemy : new int[] {LOW, -2, 0, 1, HIGH}) {
            refused("enemies(" + enemy + ") of none", Checks.WRONG, x -> enemies(x, enemy), usedUp);
        }
        for (int enemy : new int[] {LOW, -2, 2, 3, HIGH}) {
            refused("enemies(" + enemy + ") of two", Checks.WRONG, x -> enemies(x, enemy, 0, 0, 2, 1), usedUp);
        }
        for (int enemy : new int[] {-2, 10, 11}) {
            refused("enemies(" + enemy + ") of ten", Checks.WRONG, x -> enemies(x, enemy, new int[20]), usedUp);
        }
        Checks.due("none told", 0, () -> enemies(some(), -1));
        Checks.due("the first of two", 1, () -> enemies(some(), 0, 0, 0, 2, 1));
        Checks.due("the last of ten", 1, () -> enemies(some(), 9, new int[20]));
        Checks.due("the last place and weapon", 4, () -> enemies(some(), 0, 11, 5));
        Checks.due("of a right tape nothing is left, either", "", () -> Whole.difference(
                Whole.behind(RefusedTest::some, x -> enemies(x, -1, 0, 0, 2, 1)), usedUp));
        Checks.due("enemies leave the fault of a text", 12, () -> {
            ScarArmy x = some();
            Checks.answer(() -> x.enemies(-1));
            return x.fault();
        });
        allTen();
    }

    private void allTen() {
        ScarArmy x = Checks.with("battle 0 day 0 with 0" + ";man 0".repeat(10));
        // place p on p and on the one behind, the last place on 0 alone: the tenth moves all others on
        int[] told = new int[20];
        for (int place = 0; place < 9; place++) {
            x.wound(place, 0, 0, 1, place);
            x.wound(place, 0, 0, 1, place + 1);
            told[2 * place] = place;
        }
        x.wound(9, 0, 0, 1, 0);
        told[18] = 9;
        Checks.due("all ten are right", 10, () -> Checks.enemies(x, -1, told));
        Checks.due("whom the ninth could mean", 512 + 256, () -> Checks.enemies(x, 8, told));
        x.die(9);
        Checks.due("nine of them", 9, () -> Checks.enemies(x, -1, told));
        Checks.due("whom the ninth could mean", 256, () -> Checks.enemies(x, 8, told));
        Checks.due("ten who mean one", 1, () -> {
            int[] same = new int[20];
            for (int i = 0; i < 10; i++) {
                same[2 * i] = 9;
            }
            return Checks.enemies(x, -1, same);
        });
    }

    private void ofNothingThatHappens() {
        for (int n : new int[] {LOW, -1, 6, 20, 401, HIGH}) {
            refused("end(" + n + ")", "false", x -> x.end(n));
        }
        refused("end(5), all of it", "true", x -> x.end(5));
        for (int what : new int[] {LOW, -1, 11, 12, HIGH}) {
            refused("count(" + what + ")", "-1", x -> x.count(what));
        }
        for (int ago : new int[] {LOW, -1, 2, 59, 60, HIGH}) {
            refused("log(" + ago + ", 0)", "-1", x -> x.log(ago, 0));
            refused("log(" + ago + ", 4)", "-1", x -> x.log(ago, 4));
        }
        ScarArmy none = new ScarArmy();
        Checks.due("nothing to undo", false, none::undo);
        Checks.due("no image", false, none::back);
        ScarArmy back = Checks.first();
        back.days(3);
        Checks.due("no image", false, back::back);
        Checks.due("nothing happens", 28, () -> back.count(5));
        Checks.due("the act is remembered", 1, () -> back.count(9));
        back.undo();
        Checks.due("nothing to undo", false, back::undo);
        Checks.due("nothing happens", 25, () -> back.count(5));
    }

    private void ofTextsThatAreWrong() {
        String[] texts = {"x", "man 7;", "man 10000", "told 9 9", "dead 5", "today 1000", "battle 1 day 1 with 6",
            "scar 0 of 0 in 4 depth 1 on 0"};
        for (String text : texts) {
            refused("army: " + text, Checks.WRONG, x -> {
                x.end(0);
                return Checks.army(x, text);
            }, usedUp);
        }
        for (String text : new String[] {"x", "void;", "worth 100", "void if own and", "worth 1 if (own"}) {
            refused("law: " + text, Checks.WRONG, x -> {
                x.end(0);
                return Checks.law(x, text);
            }, usedUp);
        }
    }

    /** Where no more fit: twelve texts, 24 scars, 400 bytes. */
    private void ofFull() {
        Checks.sentence("UnsupportedOperationException: there are 12.");
        List<String> left = Whole.behind(RefusedTest::twelve, x -> x.end(0));
        for (String text : new String[] {"", "man 7", "today 3;dead 0"}) {
            Checks.due("army: " + text, Checks.FULL, () -> Checks.army(twelve(), text));
            Checks.due("left of army: " + text, "", () -> Whole.difference(
                    Whole.behind(RefusedTest::twelve, x -> Checks.answer(() -> Checks.army(x, text))), left));
        }
        Checks.due("a wrong one", Checks.WRONG, () -> Checks.army(twelve(), "man"));
        Checks.due("left of a wrong one", "", () -> Whole.difference(
                Whole.behind(RefusedTest::twelve, x -> Checks.answer(() -> Checks.army(x, "man"))), left));
        Checks.sentence("UnsupportedOperationException: there are 24.");
        List<String> scars = Whole.of(RefusedTest::scars24);
        Checks.due("a 25th scar", Checks.FULL, () -> scars24().wound(0, 0, 0, 1, 0));
        Checks.due("left of a 25th scar", "", () -> Whole.difference(
                Whole.behind(RefusedTest::scars24, x -> Checks.answer(() -> x.wound(0, 0, 0, 1, 0))), scars));
        Checks.due("a 25th scar on a dead one", Checks.STATE, () -> scars24().wound(0, 0, 0, 1, 1));
        Checks.due("a 25th scar without depth", Checks.WRONG, () -> scars24().wound(0, 0, 0, 10, 1));
        Checks.due("a 25th scar of no battle", Checks.OUT, () -> scars24().wound(0, 0, 1, 10, 1));
        Checks.sentence("NONE, and none come, if it would have more than 400.");
        List<String> tape = Whole.of(RefusedTest::tape381);
        Checks.due("feed behind 381", -1, () -> tape381().feed(1, 1, 1, 1, 1));
        Checks.due("left of it", "", () -> Whole.difference(
                Whole.behind(RefusedTest::tape381, x -> x.feed(1, 1, 1, 1, 1)), tape));
    }

    private static ScarArmy twelve() {
        ScarArmy x = Checks.with("man 5", "", "", "", "", "", "", "", "", "", "", "");
        x.days(1);
        return x;
    }

    private static ScarArmy scars24() {
        ScarArmy x = Checks.with("battle 0 day 0 with 0;man 1;man 1;dead 1");
        for (int scar = 0; scar < 24; scar++) {
            x.wound(scar % 12, 0, 0, 1, 0);
        }
        return x;
    }

    private static ScarArmy tape381() {
        ScarArmy x = new ScarArmy();
        Checks.tape(x, " ".repeat(376) + "man 7");
        return x;
    }

    private void whatIsAskedLeavesNothing() {
        Checks.sentence("TRIAL of N sales (0 to 30) from now (nothing stays)");
        List<Function<ScarArmy, Object>> calls = new ArrayList<>();
        for (int n : new int[] {0, 1, 30}) {
            calls.add(x -> x.trial(n, true));
            calls.add(x -> x.trial(n, false));
            calls.add(x -> x.span(n, true));
            calls.add(x -> x.span(n, false));
        }
        for (int n : new int[] {0, 1, 30, 400}) {
            calls.add(x -> x.after(0, n));
        }
        for (int man = 0; man < 5; man++) {
            int m = man;
            calls.add(x -> x.largest(m, true));
            calls.add(x -> x.betrays(m));
            calls.add(x -> x.gains(m, m));
            calls.add(x -> x.buyer(m));
            calls.add(x -> x.turn(31, 3, 50 * m, m));
        }
        calls.add(x -> x.least(0, 30, true));
        calls.add(x -> x.least(1, 999, false));
        calls.add(ScarArmy::fewest);
        calls.add(ScarArmy::sergeant);
        calls.add(ScarArmy::swaps);
        calls.add(ScarArmy::fault);
        calls.add(x -> x.bargain(true));
        calls.add(x -> x.campaign(true));
        calls.add(x -> x.his(-1));
        calls.add(x -> x.route(-1));
        calls.add(x -> x.shared(0, 2));
        calls.add(x -> x.seed(x.seed(3)));
        for (int i = 0; i < calls.size(); i++) {
            Function<ScarArmy, Object> call = calls.get(i);
            Checks.due("left of question " + i, "", () -> Whole.difference(Whole.behind(RefusedTest::some, call::apply), unchanged));
        }
    }
}
