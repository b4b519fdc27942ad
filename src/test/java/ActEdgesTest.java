import java.util.ArrayList;
import java.util.List;
import java.util.function.Consumer;

/** The boundary cases of acts, pensions, sales, THE LOG and the way back, sentence by sentence. */
public final class ActEdgesTest {
    private static final int SCARS = 20;

    private ActEdgesTest() {
    }

    public static void main(String[] args) {
        payOfAHand();
        purseOfWhoBoreIt();
        deadHands();
        names();
        toldBetter();
        nameDies();
        widowInherits();
        cut();
        daysGoBy();
        pensionDays();
        pensionOfWhom();
        fullPurses();
        latestSixty();
        logIsGoneBackTo();
        salesOfOneScar();
        buyerAlone();
        draws();
        sixSeeds();
        marketIsAnAct();
        afterDays();
        twelveActs();
        eachActUndone();
        seedOfUndone();
        textsForget();
        image();
        Checks.close();
    }

    /** One scar of depth 1 on the first of two men with so many coins. */
    private static ScarArmy two(int first, int second) {
        return Checks.with("battle 0 day 0 with 0;man " + first + ";man " + second + ";scar 0 of 0 in 0 depth 1 on 0");
    }

    private static void payOfAHand() {
        Checks.sentence("ACTS: a SCAR is HANDED over by who BEARS it (ALIVE) to another MAN (ALIVE) for pay (0 to 9999; "
                + "at most what that one has)");
        Object[][] rows = {{9999, -1, Checks.WRONG}, {9999, 0, 1}, {9999, 1, 1}, {9999, 9998, 1}, {9999, 9999, 1},
            {9999, 10000, Checks.WRONG}, {9999, Integer.MIN_VALUE, Checks.WRONG}, {9999, Integer.MAX_VALUE, Checks.WRONG},
            {9998, 9999, Checks.STATE}, {50, 49, 1}, {50, 50, 1}, {50, 51, Checks.STATE}, {0, 0, 1}, {0, 1, Checks.STATE},
            {0, -1, Checks.WRONG}};
        for (Object[] row : rows) {
            int coins = (int) row[0];
            int pay = (int) row[1];
            ScarArmy x = two(0, coins);
            Checks.due("hand for " + pay + " of " + coins, row[2], () -> x.hand(0, 1, pay));
            boolean done = row[2].equals(1);
            Checks.due("coins of who pays", done ? coins - pay : coins, () -> x.man(1, 2));
            Checks.due("coins of who bore it", done ? pay : 0, () -> x.man(0, 2));
            Checks.due("who bears it", done ? 1 : 0, () -> x.scar(0, 6));
            Checks.due("the name", done ? 1 : 0, () -> x.man(0, 1));
            Checks.due("rows of the log", done ? 1 : 0, () -> x.count(8));
            Checks.due("acts", done ? 1 : 0, () -> x.count(9));
        }
    }

    private static void purseOfWhoBoreIt() {
        Checks.sentence("COINS go the other way (9999 at most: the rest is lost), that one BEARS it, and both change NAMES.");
        int[][] rows = {{9990, 8, 9998}, {9990, 9, 9999}, {9990, 10, 9999}, {9990, 50, 9999}, {9999, 0, 9999},
            {9999, 1, 9999}, {0, 50, 50}};
        for (int[] row : rows) {
            ScarArmy x = two(row[0], 50);
            x.hand(0, 1, row[1]);
            Checks.due("coins of who bore it", row[2], () -> x.man(0, 2));
            Checks.due("coins of who paid", 50 - row[1], () -> x.man(1, 2));
            Checks.due("the pay, all of it", row[1], () -> x.log(0, 4));
            x.undo();
            Checks.due("as ahead of it", row[0] + 50, () -> x.count(7));
        }
    }

    private static void deadHands() {
        Checks.sentence("IllegalArgumentException: the pay is none, or both are one; IllegalStateException: one of both "
                + "is dead, or has not so much.");
        ScarArmy x = two(5, 5);
        Checks.due("to oneself", Checks.WRONG, () -> x.hand(0, 0, 0));
        Checks.due("to the other one", 1, () -> x.hand(0, 1, 0));
        Checks.due("now that one is oneself", Checks.WRONG, () -> x.hand(0, 1, 0));
        ScarArmy from = two(5, 5);
        Checks.army(from, "dead 0");
        Checks.due("of a dead one", Checks.STATE, () -> from.hand(0, 1, 0));
        Checks.due("of a dead one to that one", Checks.WRONG, () -> from.hand(0, 0, 0));
        ScarArmy to = two(5, 5);
        Checks.army(to, "dead 1");
        Checks.due("to a dead one", Checks.STATE, () -> to.hand(0, 1, 0));
        Checks.due("to a dead one, no pay", Checks.WRONG, () -> to.hand(0, 1, -1));
        ScarArmy third = two(5, 5);
        Checks.army(third, "man 5;dead 2");
        Checks.due("a dead one beside both", 1, () -> third.hand(0, 1, 5));
    }

    private static void names() {
        Checks.sentence("HANDED over: the NAME that who bore it goes by then.");
        ScarArmy x = Checks.with("battle 0 day 0 with 0;man 9;man 9;man 9;scar 0 of 0 in 0 depth 1 on 0 by 1");
        Checks.due("from 1 to 2", 2, () -> x.hand(0, 2, 0));
        Checks.due("from 2 to 0", 0, () -> x.hand(0, 0, 0));
        Checks.due("from 0 to 2", 0, () -> x.hand(0, 2, 0));
        int[] due = {0, 2, 1};
        for (int man = 0; man < 3; man++) {
            int m = man;
            Checks.due("name of " + m, due[m], () -> x.man(m, 1));
            Checks.due("who goes by it", m, () -> x.who(due[m]));
        }
    }

    private static void toldBetter() {
        Checks.sentence("A SCAR is POLISHED: TOLD 1 more (9 at most) by a trade (0 to 2): each trade once for each SCAR.");
        int[][] rows = {{0, 1}, {7, 8}, {8, 9}, {9, 9}};
        for (int[] row : rows) {
            for (int trade = 0; trade <= 2; trade++) {
                int t = trade;
                ScarArmy x = two(0, 0);
                Checks.army(x, "told 0 " + row[0]);
                Checks.due("told " + row[0] + ", by " + t, row[1], () -> x.polish(0, t));
                Checks.due("told", row[1], () -> x.scar(0, 4));
                Checks.due("trades", 1 << t, () -> x.scar(0, 9));
                Checks.due("once more", Checks.STATE, () -> x.polish(0, t));
                Checks.due("told", row[1], () -> x.scar(0, 4));
                Checks.due("one act", 1, () -> x.count(9));
            }
        }
        ScarArmy x = two(0, 0);
        Checks.army(x, "scar 1 of 0 in 0 depth 1 on 0;told 0 8");
        int[] due = {9, 9, 9};
        for (int trade = 0; trade <= 2; trade++) {
            int t = trade;
            Checks.due("each trade once", due[t], () -> x.polish(0, t));
        }
        Checks.due("another scar", 1, () -> x.polish(1, 2));
        for (int trade : new int[] {-1, 3, Integer.MIN_VALUE, Integer.MAX_VALUE, 32, 34}) {
            Checks.due("no trade " + trade, Checks.OUT, () -> x.polish(1, trade));
        }
        Checks.due("no scar", Checks.OUT, () -> x.polish(2, 0));
        x.undo();
        Checks.due("undone, it may be again", 1, () -> x.polish(1, 2));
    }

    private static void nameDies() {
        Checks.sentence("A NAME dies: the MAN who goes by it is dead.");
        ScarArmy x = two(3, 4);
        x.hand(0, 1, 0);
        Checks.due("the man", 1, () -> x.die(0));
        Checks.due("alive", 1, () -> x.count(6));
        Checks.due("dead already", Checks.STATE, () -> x.die(0));
        Checks.due("one act", 2, () -> x.count(9));
        Checks.due("the last one", 0, () -> x.die(1));
        Checks.due("nobody is alive", 0, () -> x.count(6));
        Checks.due("coins stay", 7, () -> x.count(7));
        Checks.due("scars stay", 1, () -> x.man(1, 3));
        for (int name : new int[] {-1, 2, Integer.MIN_VALUE, Integer.MAX_VALUE}) {
            Checks.due("no name " + name, Checks.OUT, () -> x.die(name));
        }
    }

    private static void widowInherits() {
        Checks.sentence("A widow: SCARS that a dead MAN BEARS go to a MAN ALIVE (COINS, too, 9999 at most; NAMES stay).");
        int[][] rows = {{0, 0, 0}, {8, 9990, 9998}, {9, 9990, 9999}, {10, 9990, 9999}, {9999, 9999, 9999}, {9999, 0, 9999}};
        for (int[] row : rows) {
            ScarArmy x = two(row[0], row[1]);
            Checks.army(x, "dead 0");
            Checks.due("one scar", 1, () -> x.widow(0, 1));
            Checks.due("coins of the heir", row[2], () -> x.man(1, 2));
            Checks.due("coins of the dead", 0, () -> x.man(0, 2));
            Checks.due("names stay", 0, () -> x.man(0, 1));
            Checks.due("who bears it", 1, () -> x.scar(0, 6));
            Checks.due("whom it was cut on", 0, () -> x.scar(0, 5));
            Checks.due("no row of the log", 0, () -> x.count(8));
            Checks.due("none are left", 0, () -> x.widow(0, 1));
            Checks.due("coins of the heir", row[2], () -> x.man(1, 2));
            Checks.due("acts", 2, () -> x.count(9));
        }
        Checks.sentence("IllegalArgumentException: both are one; IllegalStateException: the first one is ALIVE, or the "
                + "other one is dead.");
        ScarArmy x = two(1, 1);
        Checks.due("both are alive", Checks.STATE, () -> x.widow(0, 1));
        Checks.due("both are one, alive", Checks.WRONG, () -> x.widow(0, 0));
        Checks.army(x, "dead 1");
        Checks.due("the first one alive, the other one dead", Checks.STATE, () -> x.widow(0, 1));
        Checks.due("both are one, dead", Checks.WRONG, () -> x.widow(1, 1));
        Checks.due("the first one dead, the other one alive", 0, () -> x.widow(1, 0));
        Checks.army(x, "dead 0");
        Checks.due("both are dead", Checks.STATE, () -> x.widow(0, 1));
    }

    private static void cut() {
        Checks.sentence("A SCAR is CUT: a new one, as in a text (TOLD 0; who BEARS it is whom it was CUT on, ALIVE).");
        Object[][] rows = {{0, 0, 0, 1, 0, 1}, {11, 5, 1, 9, 2, 1}, {-1, 0, 0, 1, 0, Checks.OUT}, {12, 0, 0, 1, 0, Checks.OUT},
            {0, -1, 0, 1, 0, Checks.OUT}, {0, 6, 0, 1, 0, Checks.OUT}, {0, 0, -1, 1, 0, Checks.OUT},
            {0, 0, 2, 1, 0, Checks.OUT}, {0, 0, 0, 0, 0, Checks.WRONG}, {0, 0, 0, -1, 0, Checks.WRONG},
            {0, 0, 0, 10, 0, Checks.WRONG}, {0, 0, 0, 1, -1, Checks.OUT}, {0, 0, 0, 1, 3, Checks.OUT},
            {0, 0, 0, 1, 1, Checks.STATE}, {0, 0, 0, 9, 1, Checks.STATE}, {0, 0, 0, 10, 1, Checks.WRONG},
            {0, 0, 0, 0, 3, Checks.OUT}, {0, 0, 1, Integer.MIN_VALUE, 2, Checks.WRONG}};
        for (Object[] row : rows) {
            ScarArmy x = two(0, 0);
            Checks.army(x, "battle 1 day 1 with 1;man 1;dead 1;told 0 9");
            int[] n = new int[5];
            for (int i = 0; i < 5; i++) {
                n[i] = (int) row[i];
            }
            Checks.due("wound", row[5], () -> x.wound(n[0], n[1], n[2], n[3], n[4]));
            boolean done = row[5].equals(1);
            Checks.due("scars", done ? 2 : 1, () -> x.count(2));
            Checks.due("acts", done ? 1 : 0, () -> x.count(9));
            int[] due = {n[0], n[1], n[2], n[3], 0, n[4], n[4], n[3]};
            for (int what = 0; done && what < due.length; what++) {
                int w = what;
                Checks.due("scar(1, " + w + ")", due[w], () -> x.scar(1, w));
            }
        }
        Checks.sentence("IllegalArgumentException: DEPTH is none; IllegalStateException: one is dead; "
                + "UnsupportedOperationException: there are 24.");
        ScarArmy x = two(0, 0);
        Checks.army(x, "dead 1");
        for (int scar = 1; scar < 24; scar++) {
            int due = scar;
            Checks.due("its number", due, () -> x.wound(due % 12, due % 6, 0, 1 + due % 9, 0));
        }
        Checks.due("a 25th", Checks.FULL, () -> x.wound(0, 0, 0, 1, 0));
        Checks.due("a 25th, dead", Checks.STATE, () -> x.wound(0, 0, 0, 1, 1));
        Checks.due("a 25th, no depth", Checks.WRONG, () -> x.wound(0, 0, 0, 0, 0));
        Checks.due("a 25th, nowhere", Checks.OUT, () -> x.wound(12, 0, 0, 1, 0));
        Checks.due("scars", 24, () -> x.count(2));
        x.polish(23, 1);
        x.undo();
        x.undo();
        Checks.due("of the undone one nothing is left", 23, () -> x.wound(0, 0, 0, 1, 0));
        Checks.due("told", 0, () -> x.scar(23, 4));
        Checks.due("trades", 0, () -> x.scar(23, 9));
        ScarArmy y = two(0, 0);
        y.image();
        y.wound(2, 2, 0, 2, 1);
        y.polish(1, 0);
        y.polish(1, 2);
        y.hand(1, 0, 0);
        y.back();
        Checks.due("behind going back, too", 1, () -> y.wound(3, 3, 0, 3, 1));
        int[] due = {3, 3, 0, 3, 0, 1, 1, 3, 12, 0, 0};
        for (int what = 0; what < due.length; what++) {
            int w = what;
            Checks.due("scar(1, " + w + ")", due[w], () -> y.scar(1, w));
        }
    }

    private static void daysGoBy() {
        Checks.sentence("DAYS (1 to 400) go by: TODAY is so much more (9999 at most)");
        for (int n : new int[] {Integer.MIN_VALUE, -1, 0, 401, Integer.MAX_VALUE}) {
            ScarArmy x = two(0, 0);
            Checks.due("days(" + n + ")", Checks.WRONG, () -> x.days(n));
            Checks.due("today stays", 0, () -> x.count(5));
            Checks.due("no act", 0, () -> x.count(9));
        }
        for (int n : new int[] {1, 2, 399, 400}) {
            ScarArmy x = two(0, 0);
            Checks.due("days(" + n + ")", n / 30, () -> x.days(n));
            Checks.due("today", n, () -> x.count(5));
        }
        int[][] rows = {{9998, 1}, {9999, 2}, {9999, 3}, {9999, 400}};
        for (int[] row : rows) {
            ScarArmy x = two(0, 0);
            Checks.army(x, "today 997");
            for (int i = 0; i < 22; i++) {
                x.days(400);
            }
            x.days(200);
            Checks.due("today", 9997, () -> x.count(5));
            Checks.due("no pension day", 0, () -> x.days(row[1]));
            Checks.due("today", row[0], () -> x.count(5));
        }
        ScarArmy x = two(0, 0);
        Checks.army(x, "today 999");
        for (int i = 0; i < 22; i++) {
            x.days(400);
        }
        x.days(190);
        Checks.due("today", 9989, () -> x.count(5));
        Checks.due("the last pension", 1, () -> x.days(400));
        Checks.due("today", 9999, () -> x.count(5));
        Checks.due("no more days, no more pensions", 0, () -> x.days(400));
        Checks.due("today", 9999, () -> x.count(5));
        Checks.due("an act all the same", 12, () -> x.count(9));
        x.undo();
        x.undo();
        Checks.due("undone", 9989, () -> x.count(5));
        Checks.army(x, "today 5");
        Checks.due("a text may go back", 5, () -> x.count(5));
    }

    private static void pensionDays() {
        Checks.sentence("each of these DAYS that is a multiple of 30 (TODAY, behind it): each MAN ALIVE gets the PENSION "
                + "of the NAME that one goes by.");
        int[][] rows = {{0, 29, 0}, {0, 30, 1}, {0, 31, 1}, {0, 59, 1}, {0, 60, 2}, {0, 61, 2}, {0, 400, 13}, {28, 1, 0},
            {29, 1, 1}, {30, 1, 0}, {30, 29, 0}, {30, 30, 1}, {29, 31, 2}, {29, 30, 1}, {990, 9, 0}, {999, 20, 0}, {999, 21, 1}};
        for (int[] row : rows) {
            ScarArmy x = two(0, 0);
            Checks.army(x, "today " + row[0]);
            Checks.due("days(" + row[1] + ") from " + row[0], row[2], () -> x.days(row[1]));
            Checks.due("coins", row[2], () -> x.man(0, 2));
            Checks.due("nothing was cut on the other one", 0, () -> x.man(1, 2));
        }
        ScarArmy law = two(0, 0);
        Checks.law(law, "worth 5 if days > 29;worth 2 if days > 30");
        // day 30: 5; day 60: 7; the law sees each day as it is then
        Checks.due("worth of day 30", 5, () -> law.days(59));
        Checks.due("worth of day 60", 7, () -> law.days(1));
    }

    private static void pensionOfWhom() {
        Checks.sentence("PENSION of a NAME: WORTH of all SCARS CUT on the MAN of that number.");
        ScarArmy x = Checks.with("battle 0 day 0 with 0;man 0;man 0;man 0;scar 0 of 0 in 0 depth 1 on 0;"
                + "scar 1 of 0 in 0 depth 2 on 0 by 2;scar 2 of 0 in 0 depth 4 on 1;today 29");
        Checks.due("pension of 0, who bears it or not", 3, () -> x.man(0, 5));
        Checks.due("pension of 1", 4, () -> x.man(1, 5));
        Checks.due("pension of 2, on whom none was cut", 0, () -> x.man(2, 5));
        x.hand(0, 1, 0);
        Checks.due("of one's own number still", 3, () -> x.man(0, 5));
        x.die(0);
        // man 1 goes by 0 and is dead; man 0 goes by 1
        Checks.due("all got", 4, () -> x.days(1));
        Checks.due("by the name", 4, () -> x.man(0, 2));
        Checks.due("not the dead", 0, () -> x.man(1, 2));
        Checks.due("by a name without", 0, () -> x.man(2, 2));
    }

    private static void fullPurses() {
        Checks.sentence("DAYS go by: COINS that all got.");
        int[][] rows = {{9996, 3, 9999}, {9997, 2, 9999}, {9998, 1, 9999}, {9999, 0, 9999}, {9995, 3, 9998}};
        for (int[] row : rows) {
            ScarArmy x = Checks.with("battle 0 day 0 with 0;man " + row[0] + ";scar 0 of 0 in 0 depth 3 on 0");
            Checks.due("what fits", row[1], () -> x.days(30));
            Checks.due("coins", row[2], () -> x.man(0, 2));
        }
    }

    private static void latestSixty() {
        Checks.sentence("THE LOG: the latest 60 SCARS HANDED over: TODAY, the SCAR, from whom, to whom, the pay.");
        ScarArmy x = two(40, 40);
        for (int n = 1; n <= 62; n++) {
            int to = n % 2;
            int pay = n % 7;
            x.hand(0, to, pay);
            int rows = Math.min(60, n);
            Checks.due("rows behind " + n, rows, () -> x.count(8));
            Checks.due("the latest", pay, () -> x.log(0, 4));
            int first = Math.max(1, n - 59);
            Checks.due("the first that is known", first % 7, () -> x.log(rows - 1, 4));
            Checks.due("to whom", first % 2, () -> x.log(rows - 1, 3));
            Checks.due("none ahead of it", -1, () -> x.log(rows, 4));
        }
        Checks.due("how often by the log", 60, () -> x.led(0, true));
        Checks.due("who bore it 60 changes ago", 0, () -> x.hands(0, 60));
        Checks.due("who bore it 59 changes ago", 1, () -> x.hands(0, 59));
        Checks.due("61 changes ago: it does not tell", -1, () -> x.hands(0, 61));
        x.undo();
        Checks.due("undone: 60, of which the first was forgotten", 60, () -> x.count(8));
        Checks.due("the first of them is known again", 2, () -> x.log(59, 4));
        Checks.due("the latest", 61 % 7, () -> x.log(0, 4));
        for (int i = 0; i < 5; i++) {
            x.undo();
        }
        Checks.due("56 acts left", 56, () -> x.count(8));
        Checks.due("the first of all", 1, () -> x.log(55, 4));
        Checks.due("the latest of them", 0, () -> x.log(0, 4));
        x.days(3);
        x.hand(0, 1, 5);
        int[] due = {3, 0, 0, 1, 5};
        for (int what = 0; what < 5; what++) {
            int w = what;
            Checks.due("log(0, " + w + ")", due[w], () -> x.log(0, w));
        }
    }

    /** So many rows were written that the 60 that are known begin anew somewhere in the middle. */
    private static ScarArmy written(int rows) {
        ScarArmy x = two(40, 40);
        x.wound(1, 0, 0, 9, 0);
        for (int n = 1; n <= rows; n++) {
            x.hand(0, n % 2, n % 5);
        }
        x.end(0);
        return x;
    }

    private static List<Integer> log(ScarArmy x) {
        List<Integer> cells = new ArrayList<>();
        for (int ago = 0; ago < 60; ago++) {
            for (int what = 1; what < 5; what++) {
                cells.add(x.log(ago, what));
            }
        }
        return cells;
    }

    private static void logIsGoneBackTo() {
        for (int rows : new int[] {30, 59, 60, 61, 90, 119, 120, 121}) {
            List<Integer> due = log(written(rows));
            Checks.sentence("all is as ahead of it (but for the TAPE, fault(), THE IMAGE)");
            ScarArmy undone = written(rows);
            for (int i = 1; i <= 12; i++) {
                undone.hand(0, (rows + i) % 2, i % 3);
            }
            Checks.due("another log", true, () -> undone.count(8) == Math.min(60, rows + 12));
            for (int i = 1; i <= 12; i++) {
                undone.undo();
            }
            Checks.due("undone behind " + rows, due, () -> log(undone));
            Checks.sentence("THE IMAGE (one) of all may be kept, and gone back to");
            ScarArmy kept = written(rows);
            kept.image();
            for (int i = 1; i <= 70; i++) {
                kept.hand(0, (rows + i) % 2, i % 3);
            }
            kept.back();
            Checks.due("gone back behind " + rows, due, () -> log(kept));
            Checks.sentence("how often it was HANDED over by THE LOG.");
            Checks.due("how often", Math.min(60, rows), () -> kept.led(0, true));
            Checks.due("how often", Math.min(60, rows), () -> undone.led(0, true));
        }
    }

    private static void salesOfOneScar() {
        Checks.sentence("that SCAR, if who BEARS it is ALIVE, is HANDED to its BUYER for its PRICE, if there is one and "
                + "that one has so much: how many sales came about; COINS that were paid.");
        // the price is 1 times 3 and 1
        int[][] rows = {{3, 0, 0}, {4, 1, 4}, {5, 1, 4}};
        for (int[] row : rows) {
            ScarArmy x = two(0, row[0]);
            Checks.due("trial with " + row[0], row[1], () -> x.trial(1, false));
            Checks.due("coins with " + row[0], row[2], () -> x.trial(1, true));
            Checks.due("span with " + row[0], row[1], () -> x.span(1, false));
            Checks.due("market with " + row[0], row[1], () -> x.market(1));
            Checks.due("rows of the log", row[1], () -> x.count(8));
            Checks.due("coins", row[2], () -> x.man(0, 2));
        }
        ScarArmy three = two(2, 4);
        // 4, then 2 (handed once), then 0 (handed twice): all that was paid counts
        Checks.due("coins of one", 4, () -> three.trial(1, true));
        Checks.due("coins of two", 6, () -> three.trial(2, true));
        Checks.due("coins of thirty", 6, () -> three.trial(30, true));
        Checks.due("thirty sales", 30, () -> three.trial(30, false));
        ScarArmy dead = two(9, 9);
        Checks.army(dead, "dead 0");
        Checks.due("a dead one's", 0, () -> dead.trial(30, false));
        Checks.due("a dead one's", 0, () -> dead.market(30));
        String cutOnAnother = "battle 0 day 0 with 0;man 9;man 9;man 9;scar 0 of 0 in 0 depth 1 on 0 by 1;dead ";
        ScarArmy cutOnDead = Checks.with(cutOnAnother + 0);
        Checks.due("cut on a dead one, borne by one alive", 1, () -> cutOnDead.trial(1, false));
        Checks.due("cut on a dead one, borne by one alive", 4, () -> cutOnDead.trial(1, true));
        ScarArmy borneByDead = Checks.with(cutOnAnother + 1);
        Checks.due("cut on one alive, borne by a dead one", 0, () -> borneByDead.trial(1, false));
        ScarArmy buyer = two(9, 9);
        Checks.army(buyer, "dead 1");
        Checks.due("no buyer", 0, () -> buyer.trial(30, false));
        Checks.due("no buyer", 0, () -> buyer.market(30));
        Checks.sentence("TRIAL of N sales (0 to 30) from now (nothing stays): each (not without SCARS)");
        for (int n : new int[] {Integer.MIN_VALUE, -1, 31, Integer.MAX_VALUE}) {
            Checks.due("trial(" + n + ")", Checks.WRONG, () -> three.trial(n, true));
            Checks.due("span(" + n + ")", Checks.WRONG, () -> three.span(n, true));
            Checks.due("market(" + n + ")", Checks.WRONG, () -> three.market(n));
        }
        for (int n : new int[] {0, 1, 29, 30}) {
            Checks.due("trial(" + n + ")", n, () -> three.trial(n, false));
            Checks.due("span(" + n + ", false)", n, () -> three.span(n, false));
            Checks.due("span(" + n + ", true)", n, () -> three.span(n, true));
            Checks.due("market(" + n + ")", n, () -> {
                int sold = three.market(n);
                three.undo();
                return sold;
            });
        }
        ScarArmy none = Checks.with("battle 0 day 0 with 0;man 9;man 9");
        Checks.due("without scars", 0, () -> none.trial(30, false));
        Checks.due("without scars", 0, () -> none.market(30));
        Checks.due("nothing was drawn", 1, () -> none.seed(1));
        Checks.due("the market was an act", 1, () -> none.count(9));
    }

    private static void buyerAlone() {
        Checks.sentence("BUYER of a SCAR: the MAN ALIVE, not who BEARS it, who GAINS most by it (of several the least); none.");
        ScarArmy x = two(0, 3);
        Checks.army(x, "man 9999");
        Checks.due("the least of several", 1, () -> x.buyer(0));
        Checks.due("who has not so much, though another one has", 0, () -> x.market(1));
        Checks.law(x, "worth 1;worth 1 if bearer > 1");
        Checks.due("who gains more", 2, () -> x.buyer(0));
        Checks.due("who has so much", 1, () -> x.market(1));
        Checks.due("now not that one", 0, () -> x.buyer(0));
        Checks.army(x, "dead 0");
        Checks.due("nor a dead one", 1, () -> x.buyer(0));
        Checks.army(x, "dead 1");
        Checks.due("none is left", -1, () -> x.buyer(0));
        Checks.army(x, "dead 2;man 0");
        Checks.due("a dead one's has a buyer, too", 3, () -> x.buyer(0));
    }

    /** The draw as the document tells it, in numbers that do not go round by themselves. */
    private static long nextSeed(long seed) {
        long next = (1103515245L * seed + 12345L) & 0xffffffffL;
        return next >= 1L << 31 ? next - (1L << 32) : next;
    }

    private static int drawn(long seed, int scars) {
        long bits = nextSeed(seed) & 0xffffffffL;
        return (int) (bits / 65536 % 32768 % scars);
    }

    /** Twenty scars, of which those of a set are borne by one alive, and all others by a dead one. */
    private static ScarArmy twenty(int alive) {
        return twenty(alive, 9999);
    }

    private static ScarArmy twenty(int alive, int coins) {
        ScarArmy x = Checks.with("battle 0 day 0 with 0;man 0;man 0;man " + coins);
        for (int from = 0; from < SCARS; from += 10) {
            StringBuilder text = new StringBuilder();
            for (int scar = from; scar < from + 10; scar++) {
                text.append(text.length() == 0 ? "" : ";").append("scar 0of0in0depth1on");
                text.append((alive >> scar & 1) != 0 ? 0 : 1);
            }
            Checks.army(x, text.toString());
        }
        Checks.army(x, "dead 1");
        return x;
    }

    private static void draws() {
        Checks.sentence("DRAW: SEED is 1103515245 times SEED and 12345, as an int that goes round; bits 16 to 30 "
                + "(SEED 1 at first).");
        ScarArmy x = twenty(-1);
        Checks.due("at first", 1, () -> x.seed(1));
        for (int seed : new int[] {1, 0, -1, 2, 3, 7, 1 << 30, Integer.MAX_VALUE, Integer.MIN_VALUE, 123456789, -987654321,
            65536, 32767 << 16}) {
            x.seed(seed);
            Checks.due("one sale", 1, () -> x.market(1));
            Checks.due("scar by seed " + seed, drawn(seed, SCARS), () -> x.log(0, 1));
            Checks.due("seed behind " + seed, nextSeed(seed), () -> x.seed(0));
            x.undo();
            Checks.due("undone, the seed, too", seed, () -> x.seed(seed));
        }
        x.seed(5);
        x.market(3);
        int third = drawn(nextSeed(nextSeed(5)), SCARS);
        Checks.due("the third of three", third, () -> x.log(0, 1));
        Checks.due("three draws", nextSeed(nextSeed(nextSeed(5))), () -> x.seed(1));
        ScarArmy none = twenty(0);
        Checks.due("none is sold", 0, () -> none.market(2));
        Checks.due("drawn all the same", nextSeed(nextSeed(1)), () -> none.seed(1));
    }

    private static void sixSeeds() {
        Checks.sentence("SPAN: the fewest and the most that came about from SEED 1, 2, .. 6.");
        for (int seed = 0; seed <= 7; seed++) {
            int scar = drawn(seed, SCARS);
            int counts = seed >= 1 && seed <= 6 ? 1 : 0;
            ScarArmy only = twenty(1 << scar);
            Checks.due("the most, if only " + seed + " sells", counts, () -> only.span(1, true));
            Checks.due("the fewest, if only " + seed + " sells", 0, () -> only.span(1, false));
            ScarArmy but = twenty(~(1 << scar));
            Checks.due("the most, if only " + seed + " does not sell", 1, () -> but.span(1, true));
            Checks.due("the fewest, if only " + seed + " does not sell", 1 - counts, () -> but.span(1, false));
            but.seed(seed);
            Checks.due("seed " + seed, 0, () -> but.trial(1, false));
            Checks.due("span leaves the seed", seed, () -> but.seed(1));
        }
        // coins for one sale: each of the six begins with what is now, not with what another one left
        ScarArmy x = twenty(-1, 4);
        Checks.due("the same of all six", 1, () -> x.span(1, true));
        Checks.due("the same of all six", 1, () -> x.span(1, false));
    }

    private static void marketIsAnAct() {
        Checks.sentence("MARKET is the same of N sales as an ACT.");
        for (int n : new int[] {0, 1, 7, 30}) {
            ScarArmy x = Checks.first();
            x.seed(n + 3);
            int sold = x.trial(n, false);
            int paid = x.trial(n, true);
            Checks.due("as many", sold, () -> x.market(n));
            Checks.due("rows of the log", sold, () -> x.count(8));
            Checks.due("coins paid", paid, () -> {
                int sum = 0;
                for (int ago = 0; ago < x.count(8); ago++) {
                    sum += x.log(ago, 4);
                }
                return sum;
            });
            Checks.due("one act", 1, () -> x.count(9));
            Checks.due("undone", true, x::undo);
            Checks.due("no row", 0, () -> x.count(8));
            Checks.due("the seed", n + 3, () -> x.seed(1));
        }
    }

    private static void afterDays() {
        Checks.sentence("AFTER N DAYS (0 to 400) more: COINS of a MAN (nothing stays).");
        for (int n : new int[] {Integer.MIN_VALUE, -1, 401, Integer.MAX_VALUE}) {
            Checks.due("after(0, " + n + ")", Checks.WRONG, () -> two(0, 0).after(0, n));
            Checks.due("after(2, " + n + ")", Checks.OUT, () -> two(0, 0).after(2, n));
        }
        int[][] rows = {{0, 0}, {1, 0}, {29, 0}, {30, 1}, {59, 1}, {60, 2}, {399, 13}, {400, 13}};
        for (int[] row : rows) {
            ScarArmy x = two(7, 7);
            Checks.due("after(0, " + row[0] + ")", 7 + row[1], () -> x.after(0, row[0]));
            Checks.due("after(1, " + row[0] + ")", 7, () -> x.after(1, row[0]));
            Checks.due("today stays", 0, () -> x.count(5));
        }
        ScarArmy full = two(9998, 0);
        Checks.due("9999 at most", 9999, () -> full.after(0, 400));
        ScarArmy last = two(0, 0);
        Checks.army(last, "today 999");
        for (int i = 0; i < 23; i++) {
            last.days(390);
        }
        Checks.due("today", 9969, () -> last.count(5));
        int coins = last.man(0, 2);
        Checks.due("the last pension is on 9990", coins + 1, () -> last.after(0, 400));
        Checks.due("ahead of it", coins, () -> last.after(0, 20));
        Checks.due("on it", coins + 1, () -> last.after(0, 21));
    }

    private static void twelveActs() {
        Checks.sentence("UNDONE: the latest ACT not undone yet (12 are remembered)");
        for (int acts = 0; acts <= 14; acts++) {
            ScarArmy x = two(0, 0);
            for (int i = 0; i < acts; i++) {
                x.days(1);
            }
            int known = Math.min(12, acts);
            Checks.due("behind " + acts + " acts", known, () -> x.count(9));
            for (int i = known - 1; i >= 0; i--) {
                int left = i;
                int today = acts - known + left;
                Checks.due("there is one", true, x::undo);
                Checks.due("today", today, () -> x.count(5));
                Checks.due("left", left, () -> x.count(9));
            }
            int today = acts - known;
            Checks.due("none is left", false, x::undo);
            Checks.due("nothing happens", today, () -> x.count(5));
            x.days(1);
            Checks.due("a new one", 1, () -> x.count(9));
            Checks.due("is undone", true, x::undo);
            Checks.due("today", today, () -> x.count(5));
        }
        ScarArmy x = two(0, 0);
        for (int i = 0; i < 12; i++) {
            x.days(1);
        }
        x.undo();
        x.undo();
        x.days(100);
        Checks.due("undone ones are gone", 11, () -> x.count(9));
        x.undo();
        Checks.due("today", 10, () -> x.count(5));
        x.undo();
        Checks.due("today", 9, () -> x.count(5));
    }

    private static ScarArmy rich() {
        ScarArmy x = Checks.first();
        Checks.army(x, "man 30;dead 3");
        Checks.law(x, "worth 2 if depth > 1;worth 3;void if not own and depth > 4");
        x.hand(3, 1, 4);
        x.image();
        x.seed(77);
        x.polish(1, 2);
        Checks.tape(x, "man 3");
        return x;
    }

    private static void eachActUndone() {
        Checks.sentence("all is as ahead of it (but for the TAPE, fault(), THE IMAGE)");
        List<String> unchanged = Whole.of(ActEdgesTest::rich);
        List<Consumer<ScarArmy>> acts = new ArrayList<>();
        acts.add(x -> x.hand(0, 2, 0));
        acts.add(x -> x.hand(2, 0, 5));
        acts.add(x -> x.polish(4, 0));
        acts.add(x -> x.polish(1, 1));
        acts.add(x -> x.die(1));
        acts.add(x -> x.widow(3, 2));
        acts.add(x -> x.wound(5, 5, 1, 9, 2));
        acts.add(x -> x.days(1));
        acts.add(x -> x.days(400));
        acts.add(x -> x.market(0));
        acts.add(x -> x.market(30));
        for (int i = 0; i < acts.size(); i++) {
            Consumer<ScarArmy> act = acts.get(i);
            Checks.due("an act " + i, 3, () -> {
                ScarArmy x = rich();
                act.accept(x);
                return x.count(9);
            });
            Checks.due("act " + i + " undone", "", () -> Whole.difference(Whole.behind(ActEdgesTest::rich, x -> {
                act.accept(x);
                x.undo();
            }), unchanged));
        }
        ScarArmy fault = rich();
        fault.end(0);
        fault.days(1);
        Checks.due("a wrong text behind the act", 0, () -> Checks.lawFault(fault, "x"));
        fault.image();
        fault.undo();
        Checks.due("fault() is not undone", 0, fault::fault);
        Checks.tape(fault, "man 3");
        fault.undo();
        Checks.due("the tape is not undone", true, () -> fault.end(5));
        fault.back();
        Checks.due("the image is not undone", 26, () -> fault.count(5));
    }

    private static void seedOfUndone() {
        Checks.sentence("SEED: what it was.");
        ScarArmy x = two(0, 0);
        int[] seeds = {0, -1, Integer.MIN_VALUE, Integer.MAX_VALUE, 1};
        int was = 1;
        for (int seed : seeds) {
            int due = was;
            Checks.due("seed(" + seed + ")", due, () -> x.seed(seed));
            was = seed;
        }
        Checks.due("no act", 0, () -> x.count(9));
        Checks.due("not undone by itself", false, x::undo);
        x.days(1);
        x.seed(5);
        x.undo();
        Checks.due("as ahead of the act", 1, () -> x.seed(6));
        x.image();
        x.seed(7);
        x.back();
        Checks.due("as in the image", 6, () -> x.seed(1));
    }

    private static void textsForget() {
        Checks.sentence("A text, going back: none are remembered.");
        Object[][] rows = {{"army", "", 0}, {"army", "today 3", 0}, {"army", "today", 1}, {"law", "", 0}, {"law", "void", 0},
            {"law", "voids", 1}};
        for (Object[] row : rows) {
            ScarArmy x = two(0, 0);
            x.days(1);
            String text = (String) row[1];
            Checks.answer(() -> row[0].equals("army") ? Checks.army(x, text) : Checks.law(x, text));
            Checks.due("behind a text: " + row[0] + " " + text, row[2], () -> x.count(9));
            Checks.due("undo behind it", row[2].equals(1), x::undo);
        }
        ScarArmy x = two(0, 0);
        x.days(1);
        Checks.due("no image, nothing happens", false, x::back);
        Checks.due("one is remembered", 1, () -> x.count(9));
        x.image();
        Checks.due("an image leaves them", 1, () -> x.count(9));
        Checks.due("back", true, x::back);
        Checks.due("none are remembered", 0, () -> x.count(9));
        Checks.due("none to undo", false, x::undo);
        Checks.due("today as in the image", 1, () -> x.count(5));
        x.days(1);
        Checks.enemies(x, -1);
        Checks.due("enemies are no text", 1, () -> x.count(9));
    }

    private static void image() {
        Checks.sentence("THE IMAGE (one) of all may be kept, and gone back to (but for the TAPE, fault() and THE IMAGE itself).");
        Consumer<ScarArmy> away = x -> {
            x.end(0);
            x.days(45);
            x.market(9);
            Checks.army(x, "man 77;battle 9 day 9 with 5;scar 9 of 5 in 3 depth 8 on 4;dead 0;told 0 9");
            Checks.law(x, "void");
            x.die(x.man(2, 1));
            x.widow(0, 4);
            x.wound(1, 1, 1, 1, 4);
            x.polish(2, 2);
            x.seed(5);
            x.end(0);
        };
        Consumer<ScarArmy> still = x -> {
            x.end(0);
            x.image();
            x.back();
        };
        List<String> due = Whole.behind(ActEdgesTest::rich, still);
        Checks.due("all is as it was kept", "", () -> Whole.difference(Whole.behind(ActEdgesTest::rich, x -> {
            x.image();
            away.accept(x);
            x.back();
        }), due));
        Checks.due("more than once", "", () -> Whole.difference(Whole.behind(ActEdgesTest::rich, x -> {
            x.image();
            away.accept(x);
            x.back();
            away.accept(x);
            x.back();
        }), due));
        ScarArmy x = two(1, 1);
        x.image();
        Checks.law(x, "void");
        x.image();
        x.days(5);
        x.back();
        Checks.due("one alone: the latest", 1, () -> x.count(4));
        Checks.due("today", 0, () -> x.count(5));
        Checks.tape(x, "dead 0");
        x.back();
        Checks.due("the tape stays", true, () -> x.end(6));
        Checks.due("it is a text", 2, x::army);
        Checks.due("a wrong one", 0, () -> Checks.armyFault(x, "x"));
        x.back();
        Checks.due("fault() stays", 0, x::fault);
        Checks.due("texts as in the image", 1, () -> x.count(3));
    }
}
