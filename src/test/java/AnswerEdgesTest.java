import java.util.ArrayList;
import java.util.List;

/** The boundary cases of what is asked of battles, men, scars and sets, sentence by sentence. */
public final class AnswerEdgesTest {
    private AnswerEdgesTest() {
    }

    public static void main(String[] args) {
        nobody();
        fullArmy();
        factsOfTheLaw();
        worth();
        looksAndEars();
        cycles();
        allHis();
        largest();
        betrays();
        moreThanTwelve();
        atABattle();
        fewest();
        skins();
        price();
        leastPay();
        leastOfTwelve();
        gains();
        thread();
        holds();
        inTurns();
        bargain();
        hands();
        deadNames();
        shared();
        routes();
        campaigns();
        lies();
        led();
        setsOfNone();
        Checks.close();
    }

    /** A battle in town 0 on day 0 with weapon 0, and so many men without coins. */
    private static ScarArmy men(int men, String... more) {
        ScarArmy x = Checks.with("battle 0 day 0 with 0" + ";man 0".repeat(men));
        for (String text : more) {
            Checks.army(x, text);
        }
        return x;
    }

    private static String scar(int place, int battle, int depth, int on) {
        return "scar " + place + " of 0 in " + battle + " depth " + depth + " on " + on;
    }

    private static void nobody() {
        Checks.sentence("`ScarArmy()`: Nobody.");
        Checks.due("not even an image", "", () -> Whole.difference(Whole.of(ScarArmy::new), Whole.of(() -> {
            ScarArmy x = new ScarArmy();
            x.undo();
            x.back();
            return x;
        })));
        ScarArmy x = new ScarArmy();
        int[] counts = {0, 0, 0, 0, -1, 0, 0, 0, 0, 0, 0};
        for (int what = 0; what < counts.length; what++) {
            int w = what;
            Checks.due("count(" + w + ")", counts[w], () -> x.count(w));
        }
        Checks.due("no battle", Checks.OUT, () -> x.battle(0, 0));
        Checks.due("no man", Checks.OUT, () -> x.man(0, 0));
        Checks.due("no scar", Checks.OUT, () -> x.scar(0, 0));
        Checks.due("no name", Checks.OUT, () -> x.who(0));
        Checks.due("his", true, () -> x.his(-1));
        Checks.due("route", true, () -> x.route(-1));
        Checks.due("turn", -1, () -> x.turn(-1, 1, 0, -1));
        Checks.due("enemies", 0, () -> x.enemies(-1));
        Checks.due("an enemy", 0, () -> Checks.enemies(x, 0, 0, 0));
        Checks.due("trial", 0, () -> x.trial(30, true));
        Checks.due("span", 0, () -> x.span(30, false));
        Checks.due("market", 0, () -> x.market(30));
        Checks.due("seed", 1, () -> x.seed(1));
        Checks.due("days", 0, () -> x.days(400));
        Checks.due("fewest", 0, x::fewest);
        Checks.due("swaps", 0, x::swaps);
        Checks.sentence("TODAY: 0 at first.");
        Checks.due("today", 0, () -> new ScarArmy().count(5));
        Checks.due("today of a text without one", 0, () -> men(1).count(5));
    }

    /** Eight battles, ten men, 24 scars: the last one of each, and none behind it. */
    private static ScarArmy full() {
        StringBuilder first = new StringBuilder("man 9");
        for (int i = 0; i < 8; i++) {
            first.append(";battle " + i + " day " + 10 * i + " with " + i % 6);
        }
        ScarArmy x = Checks.with(first.toString(), "man 9" + ";man 9".repeat(8));
        for (int from = 0; from < 24; from += 12) {
            StringBuilder text = new StringBuilder();
            for (int k = from; k < from + 12; k++) {
                text.append(k == from ? "" : ";").append("scar " + k % 12 + "of" + k % 6 + "in" + k % 8 + "depth" + (1 + k % 9)
                        + "on" + k % 10);
            }
            Checks.army(x, text.toString());
        }
        return x;
    }

    private static void fullArmy() {
        Checks.sentence("IndexOutOfBoundsException: there is no such BATTLE, MAN, SCAR, trade, PLACE, WEAPON.");
        ScarArmy x = full();
        int[] battle = {7, 70, 2, 168, 168, 168, 1};
        for (int what = 0; what < battle.length; what++) {
            int w = what;
            Checks.due("battle(7, " + w + ")", battle[w], () -> x.battle(7, w));
        }
        int[] man = {1, 9, 9, 512 + 524288, 1 + 2, 1 + 2, 512, 0};
        for (int what = 0; what < man.length; what++) {
            int w = what;
            Checks.due("man(9, " + w + ")", man[w], () -> x.man(9, w));
        }
        int[] scar = {11, 5, 7, 6, 0, 3, 3, 6, 24, 0, 0};
        for (int what = 0; what < scar.length; what++) {
            int w = what;
            Checks.due("scar(23, " + w + ")", scar[w], () -> x.scar(23, w));
        }
        Checks.due("who(9)", 9, () -> x.who(9));
        for (int what = 0; what < 12; what++) {
            int w = what;
            Checks.due("battle(8, " + w + ")", Checks.OUT, () -> x.battle(8, w));
            Checks.due("man(10, " + w + ")", Checks.OUT, () -> x.man(10, w));
            Checks.due("scar(24, " + w + ")", Checks.OUT, () -> x.scar(24, w));
        }
        Checks.due("who(10)", Checks.OUT, () -> x.who(10));
        Checks.due("fewest", 15, x::fewest);
        Checks.due("campaign", 255, () -> x.campaign(true));
        Checks.due("campaign", 8, () -> x.campaign(false));
        Checks.due("hands to the last one", 9, () -> x.hand(23, 9, 0));
        Checks.due("polished", 1, () -> x.polish(23, 2));
        Checks.due("polished", 1 << 23, () -> x.polished(2));
        Checks.due("the last one", 9, () -> x.scar(23, 6));
        Checks.due("all of them at once", false, () -> x.his(-1));
        Checks.due("an enemy of the last one", 512 + 2, () -> Checks.enemies(x, 0, 11, 5));
        Checks.due("enemies of four", 4, () -> Checks.enemies(x, -1, 0, 0, 1, 1, 2, 2, 3, 3));
        Checks.due("then of one", 1, () -> Checks.enemies(x, -1, 4, 4));
        Checks.due("then of none", 0, () -> Checks.enemies(x, -1));
        Checks.law(x, "void");
        Checks.due("all void", (1 << 24) - 1, x::voids);
        Checks.due("no set is his", false, () -> x.his(1 << 23));
        Checks.law(x, "worth 1");
        Checks.due("none void", 0, x::voids);
        Checks.due("the last one is his", true, () -> x.his(1 << 23));
        Checks.due("two at one place", false, () -> x.his(1 << 23 | 1 << 11));
        Checks.army(x, "dead 9;dead 0");
        Checks.due("alive", 510, () -> x.count(6));
        Checks.due("names of the dead", 8 + 1, x::mourned);
        Checks.due("whose name's man is dead", 8, x::crosswise);
        Checks.due("yet to come are all but those of day 0, and what does not fit", (1 << 24) - 1 & ~1, x::lies);
    }

    private static void factsOfTheLaw() {
        Checks.sentence("days: TODAY less the DAY of its BATTLE (below 0, if that is yet to come)");
        int[][] rows = {{0, -20}, {18, -2}, {19, -1}, {20, 0}, {21, 1}, {22, 2}, {999, 979}};
        for (int[] row : rows) {
            ScarArmy x = Checks.with("battle 0 day 20 with 0;man 0;" + scar(0, 0, 1, 0) + ";today " + row[0]);
            Checks.law(x, "worth 1 if days < 0;worth 2 if 0 < days;worth 4 if days + 20 > 0;worth 8 if 0 > days + 1");
            int days = row[1];
            int due = (days < 0 ? 1 : 0) + (days > 0 ? 2 : 0) + (days > -20 ? 4 : 0) + (days < -1 ? 8 : 0);
            Checks.due("days " + days, due, () -> x.scar(0, 7));
        }
        Checks.sentence("own: who BEARS it is whom it was CUT on; fits: its WEAPON is one of its BATTLE; ear: its PLACE "
                + "is 2 or 3.");
        for (int place = 0; place <= 11; place++) {
            for (int weapon = 0; weapon <= 5; weapon++) {
                ScarArmy x = Checks.with("battle 0 day 0 with 1 4;man 0;man 0;scar " + place + " of " + weapon
                        + " in 0 depth 1 on 1 by " + weapon % 2);
                Checks.law(x, "worth 1 if own;worth 2 if fits;worth 4 if ear");
                int due = (weapon % 2 == 1 ? 1 : 0) + (weapon == 1 || weapon == 4 ? 2 : 0) + (place == 2 || place == 3 ? 4 : 0);
                Checks.due("place " + place + ", weapon " + weapon, due, () -> x.scar(0, 7));
            }
        }
        Checks.sentence("SUM < SUM | SUM > SUM");
        String[] parts = {"place", "weapon", "battle", "depth", "told", "days", "bearer"};
        int[] values = {11, 5, 1, 9, 4, 7, 2};
        ScarArmy x = Checks.with("battle 0 day 0 with 0;battle 1 day 13 with 1;man 0;man 0;man 0;"
                + "scar 11 of 5 in 1 depth 9 on 0 by 2;told 0 4;today 20");
        for (int i = 0; i < parts.length; i++) {
            String law = "worth 1 if # < @ - ;worth 2 if # < @;worth 4 if # < @ +;worth 8 if # > @ -;worth 16 if # > @;"
                    + "worth 32 if # > @ +";
            String numbers = law.replace("@ -", "" + (values[i] - 1)).replace("@ +", "" + (values[i] + 1))
                    .replace("@", "" + values[i]).replace("#", parts[i]);
            Checks.law(x, numbers);
            Checks.due(numbers, 4 + 8, () -> x.scar(0, 7));
        }
        Checks.law(x, "worth 1 if place + weapon + battle + depth + told + days + bearer + 999 < 1039;"
                .replace("1039", "999 + 40") + "worth 2 if 999 + 38 < 999 + place + weapon + battle + depth + told + days + bearer");
        Checks.due("all together are 39", 3, () -> x.scar(0, 7));
    }

    private static void worth() {
        Checks.sentence("WORTH: the sum of N of all worth LINES that hold less that of all less LINES (0 at least); 0, if "
                + "a void LINE holds (VOID).");
        Object[][] rows = {{"worth 5;less 4", 1, 0}, {"worth 5;less 5", 0, 0}, {"worth 5;less 6", 0, 0}, {"less 9;worth 9", 0, 0},
            {"less 9;worth 9;worth 1", 1, 0}, {"less 9", 0, 0}, {"worth 99;".repeat(11) + "worth 99", 1188, 0},
            {"worth 9;void", 0, 1}, {"void;worth 9", 0, 1}, {"worth 9;void if not own", 9, 0}, {"void", 0, 1},
            {"worth 9;void if own;worth 9", 0, 1}, {"worth 9 if not own;less 1 if ear", 0, 0}, {"void if 1 > 2;worth 3", 3, 0},
            {"worth 0", 0, 0}, {"less 0;worth 2", 2, 0}};
        for (Object[] row : rows) {
            ScarArmy x = men(1, scar(0, 0, 1, 0));
            Checks.law(x, (String) row[0]);
            Checks.due("worth by " + row[0], row[1], () -> x.scar(0, 7));
            Checks.due("void by " + row[0], row[2], x::voids);
            Checks.due("worth of all by " + row[0], row[1], () -> x.count(10));
        }
        ScarArmy x = men(1, scar(0, 0, 1, 0) + ";" + scar(1, 0, 9, 0));
        Checks.law(x, "worth 5;less 9 if depth < 2");
        Checks.due("0 at least of each", 5, () -> x.count(10));
        Checks.due("0 at least of each", 5, () -> x.man(0, 4));
        Checks.due("0 at least of each", 5, () -> x.man(0, 5));
    }

    private static void looksAndEars() {
        Checks.sentence("LOOKS of a MAN: WORTH of all SCARS that one BEARS; EARS by the pair: 10 more, if at both PLACES 2 "
                + "and 3 one BEARS some.");
        int[][] rows = {{0, 1, 2}, {1, 2, 2}, {2, 2, 2}, {2, 3, 12}, {3, 2, 12}, {3, 3, 2}, {3, 4, 2}, {2, 11, 2}, {1, 4, 2}};
        for (int[] row : rows) {
            ScarArmy x = men(2, scar(row[0], 0, 1, 0) + ";" + scar(row[1], 0, 1, 0));
            Checks.due("looks with " + row[0] + " and " + row[1], row[2], () -> x.man(0, 4));
            Checks.due("nothing on the other one", 0, () -> x.man(1, 4));
            Checks.due("a pension has no ears", 2, () -> x.man(0, 5));
        }
        ScarArmy two = men(2, scar(2, 0, 1, 0) + ";" + scar(3, 0, 1, 1));
        Checks.due("an ear each", 2, () -> two.man(0, 4) + two.man(1, 4));
        two.hand(1, 0, 0);
        Checks.due("a pair, whomever they were cut on", 12, () -> two.man(0, 4));
        ScarArmy four = men(1, scar(2, 0, 1, 0) + ";" + scar(3, 0, 1, 0) + ";" + scar(2, 0, 1, 0) + ";" + scar(3, 0, 1, 0));
        Checks.due("10 once", 14, () -> four.man(0, 4));
        Checks.law(four, "void");
        Checks.due("whatever they are worth", 10, () -> four.man(0, 4));
    }

    private static void cycles() {
        Checks.sentence("CYCLE of a MAN: all MEN whom one comes to by going on to the MAN of the NAME one goes by, as bits. "
                + "SWAPS: the fewest changes of NAMES of two MEN so that each goes by one's own.");
        ScarArmy x = men(10, scar(0, 0, 1, 0));
        Checks.due("each by one's own", 0, x::swaps);
        Checks.due("alone", 512, () -> x.man(9, 6));
        for (int to = 1; to <= 9; to++) {
            int men = to;
            x.hand(0, to, 0);
            Checks.due("swaps of " + to, men, x::swaps);
            Checks.due("cycle of " + to, (2 << men) - 1, () -> x.man(men, 6));
            Checks.due("cycle of 0", (2 << men) - 1, () -> x.man(0, 6));
        }
        x.hand(0, 0, 0);
        Checks.due("one of nine", 8, x::swaps);
        Checks.due("alone", 1, () -> x.man(0, 6));
        Checks.due("all others", 1022, () -> x.man(1, 6));
        ScarArmy y = men(9, scar(0, 0, 1, 0) + ";" + scar(0, 0, 1, 2) + ";" + scar(0, 0, 1, 6));
        y.hand(0, 1, 0);
        y.hand(1, 3, 0);
        y.hand(1, 5, 0);
        y.hand(2, 8, 0);
        // cycles of 0 and 1, of 2, 3 and 5, of 6 and 8; 4 and 7 alone
        int[] due = {3, 3, 4 + 8 + 32, 4 + 8 + 32, 16, 4 + 8 + 32, 64 + 256, 128, 64 + 256};
        for (int man = 0; man < 9; man++) {
            int m = man;
            Checks.due("cycle of " + m, due[m], () -> y.man(m, 6));
        }
        Checks.due("1 and 2 and 1", 4, y::swaps);
        ScarArmy z = men(5, scar(0, 0, 1, 0) + ";" + scar(0, 0, 1, 1));
        z.hand(0, 4, 0);
        z.hand(1, 3, 0);
        Checks.due("cycles within one another", 2, z::swaps);
        Checks.sentence("`int who(int name) throws IndexOutOfBoundsException`: WHO goes by a NAME.");
        Checks.due("the last name", 0, () -> z.who(4));
        Checks.due("the first name", 4, () -> z.who(0));
        Checks.due("no name", Checks.OUT, () -> z.who(5));
        Checks.due("no name", Checks.OUT, () -> z.who(-1));
    }

    private static void allHis() {
        Checks.sentence("ALL HIS: SCARS can all have happened to one MAN, if no two of them are at one PLACE, and each two of "
                + "unlike BATTLES can be: from one TOWN to the other one it takes at most as many DAYS as these are apart; "
                + "and none is VOID.");
        int[][] rows = {{5, 7, 1}, {5, 8, 1}, {5, 9, 0}, {5, 10, 0}, {5, 11, 0}, {5, 12, 1}, {5, 13, 1}, {1, 7, 1}, {1, 8, 1},
            {1, 9, 0}, {1, 10, 0}, {1, 11, 0}, {1, 12, 1}, {1, 13, 1}, {3, 9, 1}, {3, 10, 1}, {3, 11, 1}, {4, 9, 1}, {4, 10, 0},
            {4, 11, 1}, {9, 15, 0}, {9, 16, 1}, {0, 8, 0}, {0, 7, 1}, {9, 999, 1}};
        for (int[] row : rows) {
            ScarArmy x = Checks.with("battle 3 day 10 with 0;battle " + row[0] + " day " + row[1] + " with 0;man 0;"
                    + scar(0, 0, 1, 0) + ";" + scar(1, 1, 1, 0) + ";" + scar(0, 1, 1, 0) + ";" + scar(2, 0, 1, 0));
            boolean due = row[2] == 1;
            String what = "town " + row[0] + " on day " + row[1] + " beside town 3 on day 10";
            Checks.due(what, due, () -> x.his(3));
            Checks.due(what, due, () -> x.route(3));
            Checks.due("at one place", false, () -> x.his(5));
            Checks.due("of one battle", true, () -> x.his(9));
            Checks.due("all but one at a place of its own", false, () -> x.his(15));
            Checks.due("each alone", true, () -> x.his(1) && x.his(2) && x.his(4) && x.his(8));
        }
        ScarArmy x = men(2, scar(4, 0, 1, 0) + ";" + scar(4, 0, 2, 1) + ";" + scar(5, 0, 3, 1));
        Checks.due("two at one place, of one battle", false, () -> x.his(3));
        Checks.due("of whomever", true, () -> x.his(5));
        Checks.law(x, "void if depth > 2");
        Checks.due("a void one", false, () -> x.his(4));
        Checks.due("one of two void", false, () -> x.his(5));
        Checks.due("none void", true, () -> x.his(1));
        Checks.sentence("Whether SCARS of a set are ALL HIS (of none: they are).");
        Checks.due("of none", true, () -> x.his(0));
        Checks.law(x, "void");
        Checks.due("of none, all void", true, () -> x.his(0));
        Checks.due("of none that there are", true, () -> x.his(8));
    }

    private static void largest() {
        Checks.sentence("LARGEST of a MAN: the most SCARS that one BEARS that are ALL HIS: of several such sets the least as bits");
        ScarArmy x = men(2, scar(4, 0, 1, 0) + ";" + scar(4, 0, 2, 0) + ";" + scar(4, 0, 3, 0) + ";" + scar(5, 0, 3, 1));
        Checks.due("one of three", 1, () -> x.largest(0, false));
        Checks.due("the least of three", 1, () -> x.largest(0, true));
        Checks.law(x, "void if depth < 2");
        Checks.due("the least that is not void", 2, () -> x.largest(0, true));
        Checks.law(x, "void");
        Checks.due("none", 0, () -> x.largest(0, true));
        Checks.due("none", 0, () -> x.largest(0, false));
        ScarArmy y = Checks.with("battle 0 day 0 with 0;battle 9 day 0 with 0;man 0;" + scar(0, 0, 1, 0) + ";" + scar(1, 1, 1, 0)
                + ";" + scar(2, 1, 1, 0) + ";" + scar(3, 0, 1, 0) + ";" + scar(4, 1, 1, 0));
        Checks.due("more before less", 3, () -> y.largest(0, false));
        Checks.due("more before less", 2 + 4 + 16, () -> y.largest(0, true));
        Checks.army(y, scar(5, 0, 1, 0));
        Checks.due("of two sets of three the least", 2 + 4 + 16, () -> y.largest(0, true));
        Checks.army(y, scar(6, 0, 1, 0));
        Checks.due("four", 1 + 8 + 32 + 64, () -> y.largest(0, true));
        ScarArmy none = men(1);
        Checks.due("who bears none", 0, () -> none.largest(0, true));
        Checks.due("who bears none", 0, () -> none.largest(0, false));
    }

    private static void betrays() {
        Checks.sentence("BETRAYS: if not all SCARS that a MAN BEARS are ALL HIS: each of them without which all others that "
                + "one BEARS are, as bits (else 0;");
        Object[][] rows = {{"", 0}, {"4", 0}, {"4 5", 0}, {"4 4", 3}, {"4 4 4", 0}, {"4 5 4", 5}, {"4 4 5 5", 0}, {"4 5 6 5", 10},
            {"4v", 1}, {"4v 5v", 0}, {"4v 5", 1}, {"4v 4", 1}, {"4v 4v", 0}, {"4 5 6v", 4}, {"4 4 6v", 0}};
        for (Object[] row : rows) {
            StringBuilder text = new StringBuilder();
            for (String place : ((String) row[0]).split(" ")) {
                if (!place.isEmpty()) {
                    boolean isVoid = place.endsWith("v");
                    text.append(text.length() == 0 ? "" : ";").append(scar(place.charAt(0) - '0', 0, isVoid ? 9 : 1, 0));
                }
            }
            ScarArmy x = men(1, text.toString());
            Checks.law(x, "void if depth > 8");
            Checks.due("places " + row[0], row[1], () -> x.betrays(0));
        }
        ScarArmy x = Checks.with("battle 0 day 5 with 0;battle 5 day 6 with 0;battle 0 day 9 with 0;man 0;"
                + scar(0, 0, 1, 0) + ";" + scar(1, 1, 1, 0) + ";" + scar(2, 2, 1, 0) + ";" + scar(3, 0, 1, 0));
        Checks.due("one that was too far off", 2, () -> x.betrays(0));
        Checks.army(x, scar(4, 1, 1, 0));
        Checks.due("two that were: neither alone", 0, () -> x.betrays(0));
    }

    private static void moreThanTwelve() {
        Checks.sentence("-3, if one BEARS more than 12. BETRAYS:");
        ScarArmy x = men(3);
        for (int i = 0; i < 11; i++) {
            x.wound(i, 0, 0, 1, 0);
        }
        Checks.due("eleven", 11, () -> x.largest(0, false));
        Checks.due("eleven", 0, () -> x.betrays(0));
        x.wound(11, 0, 0, 1, 1);
        x.hand(11, 0, 0);
        Checks.due("twelve", 12, () -> x.largest(0, false));
        Checks.due("twelve", 4095, () -> x.largest(0, true));
        Checks.due("twelve", 0, () -> x.betrays(0));
        x.wound(0, 0, 0, 1, 1);
        Checks.due("twelve, and one of another one", 4095, () -> x.largest(0, true));
        Checks.sentence("(else 0; -3, if one BEARS more than 12)");
        x.hand(12, 0, 0);
        Checks.due("thirteen", -3, () -> x.largest(0, false));
        Checks.due("thirteen", -3, () -> x.largest(0, true));
        Checks.due("thirteen", -3, () -> x.betrays(0));
        Checks.due("another one bears none", 0, () -> x.largest(1, true));
        Checks.due("another one bears none", 0, () -> x.betrays(1));
        x.hand(12, 2, 0);
        Checks.due("twelve again", 12, () -> x.largest(0, false));
        ScarArmy y = men(2);
        for (int i = 0; i < 24; i++) {
            y.wound(i % 12, 0, 0, 1, i / 12);
        }
        Checks.due("the last twelve", 4095 << 12, () -> y.largest(1, true));
        Checks.due("the first twelve", 4095, () -> y.largest(0, true));
        y.hand(0, 1, 0);
        Checks.due("eleven", 4094, () -> y.largest(0, true));
        Checks.due("thirteen", -3, () -> y.largest(1, true));
        y.hand(23, 0, 0);
        // two at place 11 on the one, two at place 0 on the other one
        Checks.due("eleven of twelve", 4094, () -> y.largest(0, true));
        Checks.due("eleven of twelve", (1 << 23) - (1 << 13) + 1, () -> y.largest(1, true));
        Checks.due("each of two", 1 << 23 | 1 << 11, () -> y.betrays(0));
        Checks.due("each of two", 1 << 12 | 1, () -> y.betrays(1));
    }

    private static void atABattle() {
        Checks.sentence("AT a BATTLE by truth: MEN on whom some SCAR of it was CUT; by looks: MEN who BEAR some, as bits. "
                + "WAS THERE: MEN ALIVE who BEAR a SCAR of it, own and not VOID.");
        ScarArmy x = Checks.with("battle 0 day 0 with 0;battle 1 day 1 with 1;battle 2 day 2 with 2;man 0;man 0;man 0;man 0;"
                + scar(0, 0, 1, 0) + ";" + scar(0, 0, 1, 1) + " by 2;" + scar(0, 0, 9, 3) + ";" + scar(0, 1, 1, 1));
        int[][] due = {{8 + 2 + 1, 8 + 4 + 1, 8 + 1}, {2, 2, 2}, {0, 0, 0}};
        for (int i = 0; i < 9; i++) {
            int battle = i / 3;
            int what = i % 3;
            Checks.due("battle(" + battle + ", " + (3 + what) + ")", due[battle][what], () -> x.battle(battle, 3 + what));
        }
        Checks.law(x, "void if depth > 8");
        Checks.due("not who bears a void one", 1, () -> x.battle(0, 5));
        Checks.due("by truth, void or not", 11, () -> x.battle(0, 3));
        Checks.army(x, scar(1, 0, 1, 3));
        Checks.due("but another one that is not", 9, () -> x.battle(0, 5));
        Checks.army(x, "dead 0;dead 3");
        Checks.due("not the dead", 0, () -> x.battle(0, 5));
        Checks.due("by truth, dead or not", 11, () -> x.battle(0, 3));
        Checks.due("by looks, dead or not", 13, () -> x.battle(0, 4));
    }

    private static void fewest() {
        Checks.sentence("FEWEST for all BATTLES that have SCARS: the fewest MEN (ALIVE or not) who together BEAR some of each: "
                + "of several the least as bits; 0 without.");
        Object[][] rows = {{"", 0}, {"00", 1}, {"01", 2}, {"00 01", 1}, {"01 00", 1}, {"00 11", 3}, {"01 11", 2}, {"00 11 01", 2},
            {"00 11 02 12", 4}, {"00 11 22", 7}, {"00 10 21 02 12", 3}, {"01 12 00 10", 1}, {"02 11 20", 7}, {"02 12 22 01 10", 4},
            {"09 18 27", 896}, {"09 19", 512}};
        for (Object[] row : rows) {
            StringBuilder text = new StringBuilder("battle 1 day 1 with 1;battle 2 day 2 with 2");
            for (String pair : ((String) row[0]).split(" ")) {
                if (!pair.isEmpty()) {
                    text.append(";" + scar(0, pair.charAt(0) - '0', 1, pair.charAt(1) - '0'));
                }
            }
            ScarArmy x = men(10, text.toString());
            Checks.due("battle and man: " + row[0], row[1], x::fewest);
            Checks.army(x, "dead 0;dead 1;dead 2;dead 9");
            Checks.due("dead or not", row[1], x::fewest);
        }
        ScarArmy one = men(1, scar(0, 0, 1, 0));
        Checks.due("one man", 1, one::fewest);
        ScarArmy by = men(3, scar(0, 0, 1, 0) + " by 2");
        Checks.due("who bears it", 4, by::fewest);
    }

    private static void skins() {
        Checks.sentence("SKINS of a BATTLE: the fewest MEN on whom all its SCARS could be, no two at one PLACE on one.");
        Object[][] rows = {{"", 0}, {"0", 1}, {"11", 1}, {"0 1", 1}, {"0 0", 2}, {"11 11", 2}, {"0 1 0", 2}, {"5 5 5", 3},
            {"5 6 6 5 5 11", 3}, {"0 11 11 0 11 11", 4}};
        for (Object[] row : rows) {
            StringBuilder text = new StringBuilder("battle 1 day 1 with 1;" + scar(0, 1, 1, 0) + ";" + scar(11, 1, 1, 0));
            for (String place : ((String) row[0]).split(" ")) {
                if (!place.isEmpty()) {
                    text.append(";" + scar(Integer.parseInt(place), 0, 1, 0));
                }
            }
            ScarArmy x = men(1, text.toString());
            Checks.due("places " + row[0], row[1], () -> x.battle(0, 6));
            Checks.due("of the other battle", 1, () -> x.battle(1, 6));
        }
        ScarArmy first = men(1, scar(7, 0, 1, 0) + ";" + scar(7, 0, 1, 0));
        Checks.due("the first one counts", 2, () -> first.battle(0, 6));
        first.image();
        first.wound(7, 0, 0, 1, 0);
        Checks.due("three", 3, () -> first.battle(0, 6));
        first.back();
        Checks.due("two again", 2, () -> first.battle(0, 6));
        Checks.due("nor whom an enemy means", 1, () -> Checks.enemies(first, 0, 7, 0));
    }

    private static void price() {
        Checks.sentence("PRICE of a SCAR: WORTH times 3, and DEPTH, less 2 for each time by THE LOG that it was HANDED over "
                + "(0 at least); 0 for a dead one's.");
        ScarArmy x = men(2, scar(0, 0, 3, 0) + ";" + scar(1, 0, 3, 0));
        Checks.law(x, "worth 1");
        int[] due = {6, 4, 2, 0, 0, 0};
        ScarArmy odd = men(2, scar(0, 0, 2, 0));
        Checks.law(odd, "worth 1");
        int[] dueOdd = {5, 3, 1, 0, 0, 0};
        for (int times = 0; times < due.length; times++) {
            int t = times;
            Checks.due("handed " + t + " times", due[t], () -> x.scar(0, 8));
            Checks.due("handed " + t + " times", dueOdd[t], () -> odd.scar(0, 8));
            Checks.due("another one", 6, () -> x.scar(1, 8));
            x.hand(0, 1 - t % 2, 0);
            odd.hand(0, 1 - t % 2, 0);
        }
        Checks.law(x, "void");
        Checks.due("a void one has its depth", 3, () -> x.scar(1, 8));
        x.die(x.man(0, 1));
        Checks.due("a dead one's", 0, () -> x.scar(1, 8));
        ScarArmy widow = men(3, scar(0, 0, 3, 0));
        Checks.army(widow, "dead 0");
        Checks.due("a dead one's", 0, () -> widow.scar(0, 8));
        widow.widow(0, 1);
        Checks.due("a widow hands nothing over", 12, () -> widow.scar(0, 8));
        ScarArmy log = men(2, scar(0, 0, 9, 0) + ";" + scar(1, 0, 1, 0));
        log.hand(0, 1, 0);
        for (int i = 0; i < 59; i++) {
            log.hand(1, 1 - i % 2, 0);
        }
        Checks.due("the log still tells of it", 34, () -> log.scar(0, 8));
        log.hand(1, 0, 0);
        Checks.due("the log does not tell any more", 36, () -> log.scar(0, 8));
    }

    private static void leastPay() {
        Checks.sentence("LEAST PAY for LOOKS (without EARS) of a MAN to be N (0 to 999) at least");
        // of others: worth 2 for 8, worth 3 for 12, worth 5 for 20; one's own: worth 4
        ScarArmy x = men(3, scar(0, 0, 2, 1) + ";" + scar(1, 0, 3, 2) + ";" + scar(3, 0, 5, 1) + ";" + scar(2, 0, 4, 0));
        Object[][] rows = {{-1, Checks.WRONG, Checks.WRONG}, {0, 0, 0}, {1, 0, 0}, {3, 0, 0}, {4, 0, 0}, {5, 8, 1}, {6, 8, 1},
            {7, 12, 2}, {8, 20, 3}, {9, 20, 3}, {10, 28, 5}, {11, 28, 5}, {12, 32, 6}, {13, 40, 7}, {14, 40, 7}, {15, -1, -1},
            {999, -1, -1}, {1000, Checks.WRONG, Checks.WRONG}, {Integer.MAX_VALUE, Checks.WRONG, Checks.WRONG},
            {Integer.MIN_VALUE, Checks.WRONG, Checks.WRONG}};
        for (Object[] row : rows) {
            int n = (int) row[0];
            Checks.due("pay for " + n, row[1], () -> x.least(0, n, false));
            Checks.due("which for " + n, row[2], () -> x.least(0, n, true));
        }
        Checks.sentence("the least pay together (0, if it is so now); none; which SCARS, as bits, in the first such way (the "
                + "least number as bits)");
        Checks.due("of two ways for 20 the least as bits", 3, () -> x.least(0, 9, true));
        x.hand(2, 2, 0);
        x.hand(2, 1, 0);
        // handed twice: worth 5 for 16
        Checks.due("a cheaper way", 16, () -> x.least(0, 9, false));
        Checks.due("a cheaper way", 4, () -> x.least(0, 9, true));
        Checks.army(x, "dead 2");
        Checks.due("not of the dead", -1, () -> x.least(0, 12, false));
        Checks.due("not of the dead", 24, () -> x.least(0, 11, false));
        Checks.due("a dead one", Checks.STATE, () -> x.least(2, 0, false));
        Checks.due("a dead one, no looks", Checks.WRONG, () -> x.least(2, 1000, false));
        Checks.sentence("each at its PRICE now, and count by their WORTH as if that MAN bore them");
        ScarArmy y = men(3, scar(0, 0, 1, 1) + ";" + scar(1, 0, 1, 2) + ";" + scar(4, 0, 1, 1));
        Checks.law(y, "worth 7 if bearer < 1;worth 9 if bearer > 1;worth 1;void if place > 3 and not own");
        Checks.due("worth 8, now 1", 4, () -> y.least(0, 8, false));
        Checks.due("worth 8, now 1", 1, () -> y.least(0, 8, true));
        Checks.due("worth 8, now 10, so it costs 31", 35, () -> y.least(0, 9, false));
        Checks.due("both", 35, () -> y.least(0, 16, false));
        Checks.due("both", 3, () -> y.least(0, 16, true));
        Checks.due("void, if that one bore it", -1, () -> y.least(0, 17, false));
        ScarArmy ears = men(2, scar(2, 0, 1, 0) + ";" + scar(3, 0, 1, 1) + ";" + scar(3, 0, 1, 0));
        Checks.due("the looks have ears", 12, () -> ears.man(0, 4));
        Checks.due("the least pay has none", 4, () -> ears.least(0, 3, false));
        Checks.due("the least pay has none", -1, () -> ears.least(0, 4, false));
        ScarArmy free = men(2, scar(0, 0, 1, 1) + ";" + scar(1, 0, 1, 1));
        for (int i = 0; i < 4; i++) {
            free.hand(1, i % 2, 0);
        }
        Checks.due("for nothing", 0, () -> free.least(0, 1, false));
        Checks.due("which is for nothing", 2, () -> free.least(0, 1, true));
        Checks.due("if it is so now", 0, () -> free.least(0, 0, true));
        Checks.law(free, "less 1");
        Checks.due("worth nothing", -1, () -> free.least(0, 1, false));
        Checks.due("worth nothing", -1, () -> free.least(0, 1, true));
    }

    private static void leastOfTwelve() {
        Checks.sentence("SCARS that others ALIVE BEAR (if there are more than 12: -3) may be bought");
        ScarArmy x = men(4);
        for (int i = 0; i < 11; i++) {
            x.wound(i, 0, 0, 1, 1 + i % 2);
        }
        Checks.due("eleven", 44, () -> x.least(0, 11, false));
        Checks.due("eleven", -1, () -> x.least(0, 12, false));
        x.wound(0, 0, 0, 1, 1);
        Checks.due("twelve", 48, () -> x.least(0, 12, false));
        Checks.due("twelve", 4095, () -> x.least(0, 12, true));
        Checks.due("one of twelve", 1, () -> x.least(0, 1, true));
        x.wound(0, 0, 0, 1, 0);
        x.wound(0, 0, 0, 1, 3);
        Checks.due("thirteen", -3, () -> x.least(0, 12, false));
        Checks.due("thirteen", -3, () -> x.least(0, 12, true));
        Checks.due("thirteen, though it is so now", -3, () -> x.least(0, 1, true));
        Checks.due("thirteen, no looks", Checks.WRONG, () -> x.least(0, 1000, true));
        x.die(3);
        Checks.due("twelve of others alive, one's own beside them", 48, () -> x.least(0, 13, false));
        Checks.due("thirteen, dead", Checks.STATE, () -> x.least(3, 1, true));
        ScarArmy y = men(2);
        for (int i = 0; i < 24; i++) {
            y.wound(i % 12, 0, 0, 1, i / 12);
        }
        Checks.due("the last twelve", 4095 << 12, () -> y.least(0, 24, true));
        Checks.due("the last one alone", 1 << 12, () -> y.least(0, 13, true));
    }

    private static void gains() {
        Checks.sentence("GAINS: what a MAN's LOOKS would be more, if one bore a SCAR, too (0, if one does).");
        int[][] rows = {{0, 2, 1, 0}, {2, 2, 1, 0}, {3, 2, 11, 10}, {4, 2, 1, 0}, {2, 3, 11, 10}, {3, 3, 1, 0}, {2, 4, 1, 0},
            {11, 3, 1, 0}};
        for (int[] row : rows) {
            ScarArmy x = men(3, scar(row[0], 0, 1, 0) + ";" + scar(row[1], 0, 1, 1));
            String what = "place " + row[1] + " beside " + row[0];
            Checks.due(what, row[2], () -> x.gains(0, 1));
            Checks.due("who bears none", 1, () -> x.gains(2, 1));
            Checks.due("who bears it", 0, () -> x.gains(1, 1));
            Checks.law(x, "void");
            Checks.due(what + ", void", row[3], () -> x.gains(0, 1));
            Checks.due("who bears it, void", 0, () -> x.gains(1, 1));
        }
        ScarArmy x = men(2, scar(2, 0, 1, 0) + ";" + scar(3, 0, 1, 0) + ";" + scar(3, 0, 1, 1));
        Checks.due("a pair already", 1, () -> x.gains(0, 2));
        Checks.law(x, "worth 4 if own;worth 2 if bearer < 1");
        Checks.due("as if that one bore it", 2, () -> x.gains(0, 2));
        Checks.army(x, "dead 0");
        Checks.due("dead or not", 2, () -> x.gains(0, 2));
        for (int none : new int[] {-1, 2, Integer.MIN_VALUE, Integer.MAX_VALUE}) {
            Checks.due("no man " + none, Checks.OUT, () -> x.gains(none, 0));
            Checks.due("no scar " + none, Checks.OUT, () -> x.gains(0, none == 2 ? 3 : none));
        }
    }

    private static void thread() {
        Checks.sentence("THREAD: SCARS of the same WEAPON, BATTLE and DEPTH as one, but that one, as bits");
        ScarArmy x = Checks.with("battle 0 day 0 with 0;battle 1 day 1 with 1;man 0;man 0;scar 0 of 1 in 0 depth 3 on 0;"
                + "scar 1 of 1 in 0 depth 3 on 1;scar 0 of 2 in 0 depth 3 on 0;scar 0 of 1 in 1 depth 3 on 0;"
                + "scar 0 of 1 in 0 depth 4 on 0;scar 5 of 1 in 0 depth 3 on 0 by 1;told 5 9");
        int[] due = {2 + 32, 1 + 32, 0, 0, 0, 1 + 2};
        for (int scar = 0; scar < due.length; scar++) {
            int s = scar;
            Checks.due("thread of " + s, due[s], () -> x.scar(s, 10));
        }
    }

    private static void holds() {
        Checks.sentence("HOLDS: BATTLES of which a MAN BEARS all SCARS, as bits (those with some). SERGEANT: the MAN who HOLDS "
                + "most; of several the least; none, if nobody HOLDS any.");
        Object[][] rows = {{"", 0, 0, 0, -1}, {"00", 1, 0, 0, 0}, {"01", 0, 1, 0, 1}, {"00 01", 0, 0, 0, -1}, {"00 11", 1, 2, 0, 0},
            {"02 11", 0, 2, 1, 1}, {"00 11 21", 1, 6, 0, 1}, {"00 10 11 22", 1, 0, 4, 0}, {"02 12 22 20", 0, 0, 3, 2},
            {"00 10 20", 7, 0, 0, 0}, {"00 00 11 11", 1, 2, 0, 0}};
        for (Object[] row : rows) {
            StringBuilder text = new StringBuilder("battle 1 day 1 with 1;battle 2 day 2 with 2");
            for (String pair : ((String) row[0]).split(" ")) {
                if (!pair.isEmpty()) {
                    text.append(";" + scar(0, pair.charAt(0) - '0', 1, pair.charAt(1) - '0'));
                }
            }
            ScarArmy x = men(3, text.toString());
            for (int man = 0; man < 3; man++) {
                int m = man;
                Checks.due("battle and man: " + row[0] + ", held by " + m, row[1 + m], () -> x.man(m, 7));
            }
            Checks.due("battle and man: " + row[0] + ", sergeant", row[4], x::sergeant);
            Checks.army(x, "dead 0;dead 1;dead 2");
            Checks.due("dead or not", row[4], x::sergeant);
        }
    }

    private static void inTurns() {
        Checks.sentence("IN TURNS: MEN of a set (ALIVE or not) bear an arm, DAYS N each (1 to 30), one behind another by "
                + "numbers, from DAY 0 on: who has it on a DAY (0 to 9999); how many DAYS a MAN had it up to a DAY (that one "
                + "not counted).");
        ScarArmy x = men(10, "dead 4;dead 9");
        for (int set : new int[] {1, 2, 512, 3, 528, 21, 1023, -1}) {
            List<Integer> members = new ArrayList<>();
            for (int man = 0; man < 10; man++) {
                if ((set >> man & 1) != 0) {
                    members.add(man);
                }
            }
            for (int n : new int[] {1, 2, 29, 30}) {
                for (int day : new int[] {0, 1, n - 1, n, n + 1, n * members.size(), n * members.size() - 1, 9998, 9999}) {
                    turn(set, members, n, day);
                }
            }
        }
        for (int n : new int[] {Integer.MIN_VALUE, -1, 0, 31, Integer.MAX_VALUE}) {
            Checks.due("turn of " + n, Checks.WRONG, () -> x.turn(3, n, 0, -1));
            Checks.due("turn of " + n, Checks.WRONG, () -> x.turn(3, n, 0, 0));
            Checks.due("turn of " + n + ", nobody", Checks.WRONG, () -> x.turn(0, n, 0, -1));
            Checks.due("turn of " + n + ", no man", Checks.OUT, () -> x.turn(3, n, 0, 10));
        }
        for (int day : new int[] {Integer.MIN_VALUE, -1, 10000, Integer.MAX_VALUE}) {
            Checks.due("day " + day, Checks.WRONG, () -> x.turn(3, 1, day, -1));
            Checks.due("day " + day, Checks.WRONG, () -> x.turn(3, 1, day, 0));
            Checks.due("day " + day + ", no man", Checks.OUT, () -> x.turn(3, 1, day, -2));
        }
        for (int man : new int[] {Integer.MIN_VALUE, -2, 10, Integer.MAX_VALUE}) {
            Checks.due("no man " + man, Checks.OUT, () -> x.turn(3, 1, 0, man));
        }
        Checks.sentence("IN TURNS: who has it on a DAY (man NONE; NONE without MEN in the set), or how many DAYS a MAN had it.");
        for (int set : new int[] {0, 1024, -1024, Integer.MIN_VALUE}) {
            Checks.due("nobody of " + set, -1, () -> x.turn(set, 1, 0, -1));
            Checks.due("nobody of " + set, 0, () -> x.turn(set, 1, 9999, 0));
        }
        Checks.due("who is not in the set", 0, () -> x.turn(1, 1, 9999, 1));
    }

    /** Each day by itself. */
    private static void turn(int set, List<Integer> members, int n, int day) {
        int[] had = new int[10];
        int at = 0;
        int left = n;
        for (int d = 0; d < day; d++) {
            had[members.get(at)]++;
            left--;
            if (left == 0) {
                left = n;
                at = (at + 1) % members.size();
            }
        }
        ScarArmy x = men(10, "dead 4;dead 9");
        String what = "set " + set + " by " + n + " on " + day;
        int who = members.get(at);
        Checks.due(what, who, () -> x.turn(set, n, day, -1));
        for (int man = 0; man < 10; man++) {
            int m = man;
            Checks.due(what + " of " + m, had[m], () -> x.turn(set, n, day, m));
        }
    }

    private static void bargain() {
        Checks.sentence("BARGAIN: of all SCARS whose bearer is ALIVE and that have a BUYER: that of which GAINS of the BUYER "
                + "times 3, less its PRICE, are the most (of several the least; none); how much that is (0 without).");
        ScarArmy none = men(2);
        bargain("no scar", none, -1, 0);
        ScarArmy alone = men(1, scar(0, 0, 1, 0));
        bargain("no buyer", alone, -1, 0);
        ScarArmy dead = men(2, scar(0, 0, 1, 0) + ";dead 0");
        bargain("a dead one's", dead, -1, 0);
        // without a law and at first: what one gains less the price is the depth below 0
        ScarArmy x = men(2, scar(0, 0, 2, 0) + ";" + scar(1, 0, 2, 1) + ";" + scar(4, 0, 3, 0));
        bargain("below 0, the least of several", x, 0, -2);
        x.hand(1, 0, 0);
        bargain("2 less for one hand: 0, and that is no none", x, 1, 0);
        x.hand(0, 1, 0);
        bargain("the least of several at 0", x, 0, 0);
        x.hand(2, 1, 0);
        x.hand(2, 0, 0);
        bargain("above 0", x, 2, 1);
        Checks.army(x, scar(2, 0, 9, 0) + ";" + scar(3, 0, 9, 1));
        bargain("a pair of ears", x, 3, 21);
        Checks.army(x, "dead 0");
        bargain("no buyer any more", x, -1, 0);
        Checks.army(x, "man 0");
        bargain("of those alive", x, 0, 0);
    }

    private static void bargain(String what, ScarArmy x, int which, int much) {
        Checks.due(what + ": which", which, () -> x.bargain(false));
        Checks.due(what + ": how much", much, () -> x.bargain(true));
    }

    private static void hands() {
        Checks.sentence("HANDS: who bore a SCAR k changes ago by THE LOG (0: who BEARS it); none, if THE LOG does not tell.");
        ScarArmy x = men(4, scar(0, 0, 1, 0) + ";" + scar(1, 0, 1, 3));
        x.hand(0, 1, 0);
        x.hand(1, 2, 0);
        x.hand(0, 2, 0);
        x.hand(0, 3, 0);
        int[][] due = {{3, 2, 1, 0, -1}, {2, 3, -1, -1, -1}};
        for (int i = 0; i < 10; i++) {
            int scar = i / 5;
            int k = i % 5;
            Checks.due("hands(" + scar + ", " + k + ")", due[scar][k], () -> x.hands(scar, k));
        }
        Checks.due("far beyond", -1, () -> x.hands(0, Integer.MAX_VALUE));
        Checks.due("below 0", Checks.WRONG, () -> x.hands(0, -1));
        Checks.due("below 0", Checks.WRONG, () -> x.hands(0, Integer.MIN_VALUE));
        Checks.due("no scar, below 0", Checks.OUT, () -> x.hands(2, -1));
        Checks.due("no scar", Checks.OUT, () -> x.hands(-1, 0));
    }

    private static void deadNames() {
        Checks.sentence("MOURNED: NAMES by which dead MEN go, as bits.");
        ScarArmy x = men(4, scar(0, 0, 1, 0) + ";" + scar(0, 0, 1, 2));
        x.hand(0, 1, 0);
        x.hand(1, 3, 0);
        // names: 1, 0, 3, 2
        Checks.due("nobody", 0, x::mourned);
        Checks.due("nobody", 0, x::crosswise);
        x.die(0);
        Checks.due("the name", 1, x::mourned);
        Checks.sentence("CROSSWISE: MEN ALIVE whose NAME's MAN is dead, as bits.");
        Checks.due("who goes by 1", 1, x::crosswise);
        x.die(2);
        Checks.due("names", 1 + 4, x::mourned);
        Checks.due("two of them", 1 + 4, x::crosswise);
        x.die(1);
        Checks.due("not the dead", 4, x::crosswise);
        x.die(3);
        Checks.due("all are dead", 0, x::crosswise);
        Checks.due("all names", 15, x::mourned);
        ScarArmy own = men(2, "dead 1");
        Checks.due("by one's own", 0, own::crosswise);
        Checks.due("by one's own", 2, own::mourned);
    }

    private static void shared() {
        Checks.sentence("SHARED by two MEN: BATTLES at which both were by truth, as bits.");
        ScarArmy x = men(3, "battle 1 day 1 with 1;battle 2 day 2 with 2;" + scar(0, 0, 1, 0) + ";" + scar(0, 0, 1, 1) + ";"
                + scar(0, 2, 1, 0) + ";" + scar(0, 2, 1, 1) + " by 2;" + scar(0, 1, 1, 1) + ";" + scar(0, 1, 1, 2) + " by 0");
        int[][] rows = {{0, 1, 5}, {1, 0, 5}, {0, 2, 0}, {1, 2, 2}, {2, 1, 2}};
        for (int[] row : rows) {
            Checks.due("shared(" + row[0] + ", " + row[1] + ")", row[2], () -> x.shared(row[0], row[1]));
        }
        for (int man = 0; man < 3; man++) {
            int m = man;
            Checks.due("both are one", Checks.WRONG, () -> x.shared(m, m));
            Checks.due("no man", Checks.OUT, () -> x.shared(m, 3));
            Checks.due("no man", Checks.OUT, () -> x.shared(-1, m));
        }
        Checks.due("no man, both are one", Checks.OUT, () -> x.shared(3, 3));
    }

    private static void routes() {
        Checks.sentence("ROUTE: whether one MAN can have been at all BATTLES of a set (each two as in ALL HIS; two in one TOWN "
                + "on one DAY can be).");
        ScarArmy x = Checks.with("battle 0 day 5 with 0;battle 0 day 5 with 0;battle 1 day 5 with 0;battle 1 day 6 with 0;"
                + "battle 9 day 14 with 0;battle 9 day 13 with 0;battle 8 day 13 with 0;battle 0 day 0 with 0");
        boolean[] due = new boolean[256];
        int[] towns = {0, 0, 1, 1, 9, 9, 8, 0};
        int[] days = {5, 5, 5, 6, 14, 13, 13, 0};
        for (int set = 0; set < 256; set++) {
            due[set] = true;
            for (int i = 0; i < 64; i++) {
                boolean both = (set >> i / 8 & 1) != 0 && (set >> i % 8 & 1) != 0;
                due[set] &= !both || Math.abs(towns[i / 8] - towns[i % 8]) <= Math.abs(days[i / 8] - days[i % 8]);
            }
            int s = set;
            Checks.due("route(" + set + ")", due[s], () -> x.route(s));
        }
        Checks.due("in one town on one day", true, () -> x.route(3));
        Checks.due("in two towns on one day", false, () -> x.route(5));
        Checks.due("next day in the next town", true, () -> x.route(9));
        Checks.due("nine days for nine towns", true, () -> x.route(17));
        Checks.due("eight days for nine towns", false, () -> x.route(33));
        Checks.sentence("Whether a set of BATTLES is a ROUTE (of none: it is).");
        Checks.due("of none", true, () -> x.route(0));
        Checks.due("of none that there are", true, () -> x.route(256));
        Checks.due("of none at all", true, () -> new ScarArmy().route(255));
    }

    private static void campaigns() {
        Checks.sentence("CAMPAIGN: the most BATTLES that are a ROUTE: how many; of several such sets the least as bits.");
        Object[][] rows = {{"", 0, 0}, {"0 5", 1, 1}, {"0 5;1 5", 1, 1}, {"0 5;0 5", 2, 3}, {"0 5;1 6", 2, 3}, {"0 5;1 5;0 5", 2, 5},
            {"0 5;1 5;2 5", 1, 1}, {"9 0;0 0;0 1;9 1", 2, 6}, {"9 0;0 0;0 1;9 1;9 2", 3, 25}, {"0 0;9 9;0 18", 3, 7},
            {"0 0;9 8;0 18", 2, 5}, {"0 1;1 2;2 3;3 4;4 5;5 6;6 7;7 8", 8, 255}, {"9 9;1 2;2 3;3 4;4 5;5 6;6 7;7 9", 7, 254}};
        for (Object[] row : rows) {
            StringBuilder text = new StringBuilder();
            for (String battle : ((String) row[0]).split(";")) {
                String[] n = battle.split(" ");
                if (n.length == 2) {
                    text.append(text.length() == 0 ? "" : ";").append("battle " + n[0] + " day " + n[1] + " with 0");
                }
            }
            ScarArmy x = Checks.with(text.toString());
            Checks.due("towns and days " + row[0] + ": how many", row[1], () -> x.campaign(false));
            Checks.due("towns and days " + row[0] + ": which", row[2], () -> x.campaign(true));
        }
    }

    private static void lies() {
        Checks.sentence("LIES: SCARS whose WEAPON does not fit, or whose BATTLE is yet to come, as bits.");
        int[][] rows = {{0, 15}, {18, 15}, {19, 15}, {20, 10}, {21, 10}, {999, 10}};
        for (int[] row : rows) {
            ScarArmy x = Checks.with("battle 0 day 20 with 0 5;man 0;scar 0 of 0 in 0 depth 1 on 0;scar 0 of 1 in 0 depth 1 on 0;"
                    + "scar 0 of 5 in 0 depth 1 on 0;scar 0 of 4 in 0 depth 1 on 0;today " + row[0]);
            Checks.due("today " + row[0], row[1], x::lies);
        }
        ScarArmy x = Checks.with("battle 0 day 20 with 0;man 0;" + scar(0, 0, 1, 0) + ";today 19");
        Checks.due("yet to come", 1, x::lies);
        x.days(1);
        Checks.due("it has come", 0, x::lies);
        Checks.sentence("VOID: SCARS that are so now, as bits.");
        Checks.due("without a law", 0, x::voids);
        Checks.law(x, "void if days > 0");
        Checks.due("not yet", 0, x::voids);
        x.days(1);
        Checks.due("now", 1, x::voids);
    }

    private static void led() {
        Checks.sentence("LED: the TOWN of a SCAR's BATTLE; how often it was HANDED over by THE LOG.");
        ScarArmy x = men(2, "battle 9 day 1 with 1;" + scar(0, 0, 1, 0) + ";" + scar(0, 1, 1, 0));
        for (int times = 0; times < 4; times++) {
            int t = times;
            Checks.due("town 0", 0, () -> x.led(0, false));
            Checks.due("town 9", 9, () -> x.led(1, false));
            Checks.due("never", 0, () -> x.led(0, true));
            Checks.due("how often", t, () -> x.led(1, true));
            x.hand(1, 1 - t % 2, 0);
        }
        Checks.due("no scar", Checks.OUT, () -> x.led(2, false));
        Checks.due("no scar", Checks.OUT, () -> x.led(-1, true));
    }

    private static void setsOfNone() {
        Checks.sentence("Sets are bits; of none they count for nothing.");
        ScarArmy x = men(2, "battle 9 day 0 with 1;" + scar(0, 0, 1, 0) + ";" + scar(1, 0, 1, 0));
        Checks.due("his, those that there are and others", true, () -> x.his(-1));
        Checks.due("his, others alone", true, () -> x.his(~3));
        Checks.due("route, one that there is and others", true, () -> x.route(~1));
        Checks.due("route, both that there are and others", false, () -> x.route(-1));
        Checks.due("turn, those that there are and others", 0, () -> x.turn(-1, 1, 2, -1));
        Checks.due("turn, one that there is and others", 1, () -> x.turn(~1, 1, 7, -1));
        Checks.due("turn, of days too", 7, () -> x.turn(~1, 1, 7, 1));
    }
}
