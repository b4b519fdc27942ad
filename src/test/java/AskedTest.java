/** Promises 7 to 10, 18, 27 to 29, 32, 34 to 39, 42, 43, 48: what is asked of what is. */
public final class AskedTest {
    private AskedTest() {
    }

    public static void main(String[] args) {
        battle();
        man();
        scar();
        price();
        whoAndSwaps();
        sergeant();
        turn();
        polished();
        deadNames();
        shared();
        routes();
        voidsAndLies();
        ledAndLog();
        count();
        Checks.close();
    }

    private static void battle() {
        ScarArmy x = Checks.first();
        Checks.army(x, "battle 0 day 0 with 5;scar 0 of 1 in 2 depth 9 on 1 by 2;scar 5 of 1 in 2 depth 9 on 1");
        int[] due = {3, 20, 1, 6, 7, 6, 2};
        for (int what = 0; what < due.length; what++) {
            int asked = what;
            Checks.due("7: battle(2, " + what + ")", due[what], () -> x.battle(2, asked));
        }
        Checks.due("7: skins without scars", 0, () -> x.battle(3, 6));
        Checks.law(x, "void if place > 4");
        Checks.due("7: was there, not by a void one", 4, () -> x.battle(2, 5));
        Checks.army(x, "dead 2");
        Checks.due("7: was there, not dead", 0, () -> x.battle(2, 5));
        Checks.due("7: at it, dead or not", 6, () -> x.battle(2, 3));
        Checks.due("7: bears, dead or not", 7, () -> x.battle(2, 4));
        Checks.due("7: another what", Checks.NO_SUCH, () -> x.battle(0, 7));
        Checks.due("7: another what", Checks.NO_SUCH, () -> x.battle(0, -1));
        Checks.due("7: no battle, told first", Checks.OUT, () -> x.battle(4, 7));
        Checks.due("7: no battle", Checks.OUT, () -> x.battle(-1, 0));
    }

    private static void man() {
        ScarArmy x = Checks.first();
        int[] due = {1, 0, 100, 11, 6, 5, 1, 1};
        for (int what = 0; what < due.length; what++) {
            int asked = what;
            Checks.due("8: man(0, " + what + ")", due[what], () -> x.man(0, asked));
        }
        x.hand(3, 1, 0);
        Checks.due("8: ears by the pair", 5 + 1 + 10, () -> x.man(1, 4));
        Checks.due("8: a name of another one", 1, () -> x.man(0, 1));
        Checks.due("8: the cycle of two", 3, () -> x.man(1, 6));
        Checks.due("8: the cycle of one", 4, () -> x.man(2, 6));
        Checks.due("8: the pension of the number", 3, () -> x.man(2, 5));
        x.hand(4, 1, 0);
        Checks.due("8: holds two", 6, () -> x.man(1, 7));
        Checks.law(x, "");
        Checks.due("8: ears count whatever the worth", 10, () -> x.man(1, 4));
        x.die(x.man(0, 1));
        Checks.due("8: dead", 0, () -> x.man(0, 0));
        Checks.due("8: another what", Checks.NO_SUCH, () -> x.man(0, 8));
        Checks.due("8: another what", Checks.NO_SUCH, () -> x.man(0, -1));
        Checks.due("8: no man, told first", Checks.OUT, () -> x.man(3, 8));
        Checks.due("8: no man", Checks.OUT, () -> x.man(-1, 0));
    }

    private static void scar() {
        ScarArmy x = Checks.first();
        Checks.army(x, "told 3 6;scar 9 of 0 in 2 depth 1 on 0;scar 8 of 0 in 2 depth 1 on 0;"
                + "scar 8 of 0 in 2 depth 2 on 0;scar 8 of 0 in 1 depth 1 on 0;scar 8 of 1 in 2 depth 1 on 0");
        x.polish(3, 2);
        int[] due = {2, 0, 2, 1, 7, 2, 0, 8, 25, 4, 32 + 64};
        for (int what = 0; what < due.length; what++) {
            int asked = what;
            Checks.due("9: scar(3, " + what + ")", due[what], () -> x.scar(3, asked));
        }
        Checks.due("9: another what", Checks.NO_SUCH, () -> x.scar(0, 11));
        Checks.due("9: another what", Checks.NO_SUCH, () -> x.scar(0, -1));
        Checks.due("9: no scar, told first", Checks.OUT, () -> x.scar(10, 11));
        Checks.due("9: no scar", Checks.OUT, () -> x.scar(-1, 0));
    }

    private static void price() {
        ScarArmy x = Checks.first();
        Checks.due("9: price", 20, () -> x.scar(2, 8));
        x.hand(2, 0, 0);
        Checks.due("9: price, handed once", 18, () -> x.scar(2, 8));
        x.hand(2, 2, 0);
        Checks.due("9: price, handed twice", 16, () -> x.scar(2, 8));
        Checks.law(x, "less 1");
        Checks.due("9: price of the depth alone", 1, () -> x.scar(2, 8));
        x.hand(2, 0, 0);
        Checks.due("9: no price below 0", 0, () -> x.scar(2, 8));
        Checks.due("9: another one's price", 3, () -> x.scar(0, 8));
        x.die(x.man(0, 1));
        Checks.due("9: a dead one's price", 0, () -> x.scar(0, 8));
    }

    private static void whoAndSwaps() {
        ScarArmy x = Checks.with("battle 0 day 0 with 0;man 1;man 1;man 1;man 1;man 1;scar 0 of 0 in 0 depth 1 on 0;"
                + "scar 0 of 0 in 0 depth 1 on 3");
        Checks.due("18: each by one's own", 0, x::swaps);
        x.hand(0, 1, 0);
        Checks.due("10: who goes by 0", 1, () -> x.who(0));
        Checks.due("10: who goes by 1", 0, () -> x.who(1));
        Checks.due("18: one swap", 1, x::swaps);
        x.hand(0, 2, 0);
        // names by man: 1, 2, 0
        Checks.due("10: who goes by 0", 2, () -> x.who(0));
        Checks.due("10: who goes by 2", 1, () -> x.who(2));
        Checks.due("18: a cycle of three", 2, x::swaps);
        Checks.due("8: a cycle of three", 7, () -> x.man(2, 6));
        x.hand(1, 4, 0);
        Checks.due("18: and one of two", 3, x::swaps);
        x.hand(0, 0, 0);
        Checks.due("18: one of two left, and that of two", 2, x::swaps);
        Checks.due("10: no such name", Checks.OUT, () -> x.who(5));
        Checks.due("10: no such name", Checks.OUT, () -> x.who(-1));
    }

    private static void sergeant() {
        ScarArmy x = Checks.first();
        Checks.due("27: the least of two", 0, x::sergeant);
        x.hand(4, 0, 0);
        x.hand(2, 2, 0);
        Checks.due("27: who holds most", 0, x::sergeant);
        x.hand(0, 1, 0);
        x.hand(3, 2, 0);
        Checks.due("27: of 1 battle", 2, x::sergeant);
        Checks.army(x, "dead 2");
        Checks.due("27: dead or not", 2, x::sergeant);
        x.undo();
        Checks.army(x, "scar 5 of 5 in 1 depth 1 on 0");
        Checks.due("27: nobody holds any", -1, x::sergeant);
    }

    private static void turn() {
        ScarArmy x = Checks.first();
        Object[][] rows = {
            {5, 3, 0, -1, 0}, {5, 3, 2, -1, 0}, {5, 3, 3, -1, 2}, {5, 3, 5, -1, 2}, {5, 3, 6, -1, 0},
            {5, 3, 0, 0, 0}, {5, 3, 2, 0, 2}, {5, 3, 3, 0, 3}, {5, 3, 4, 2, 1}, {5, 3, 7, 0, 4}, {5, 3, 7, 2, 3},
            {5, 3, 7, 1, 0}, {0, 3, 7, -1, -1}, {0, 3, 7, 1, 0}, {-8, 3, 7, -1, -1}, {-1, 1, 9999, -1, 0},
            {7, 30, 9999, 0, 3339}, {7, 30, 9999, 1, 3330}, {7, 30, 9999, 2, 3330}, {2, 30, 9999, 1, 9999},
            {5, 0, 0, -1, Checks.WRONG}, {5, 31, 0, -1, Checks.WRONG}, {5, 1, -1, -1, Checks.WRONG}, {5, 1, 10000, 0, Checks.WRONG},
            {5, 0, 0, 3, Checks.OUT}, {5, 1, 0, -2, Checks.OUT}, {5, 1, 0, 3, Checks.OUT}, {0, 31, 0, 0, Checks.WRONG},
        };
        for (Object[] r : rows) {
            Checks.due("28: turn(" + r[0] + ", " + r[1] + ", " + r[2] + ", " + r[3] + ")", r[4],
                    () -> x.turn((int) r[0], (int) r[1], (int) r[2], (int) r[3]));
        }
        Checks.army(x, "dead 0");
        Checks.due("28: dead or not", 0, () -> x.turn(5, 3, 0, -1));
    }

    private static void polished() {
        ScarArmy x = Checks.first();
        x.polish(0, 1);
        x.polish(3, 1);
        x.polish(3, 0);
        Checks.due("29: by 0", 8, () -> x.polished(0));
        Checks.due("29: by 1", 9, () -> x.polished(1));
        Checks.due("29: by 2", 0, () -> x.polished(2));
        Checks.due("29: no trade", Checks.OUT, () -> x.polished(3));
        Checks.due("29: no trade", Checks.OUT, () -> x.polished(-1));
        Checks.due("9: trades", 3, () -> x.scar(3, 9));
    }

    private static void deadNames() {
        ScarArmy x = Checks.first();
        Checks.due("32: nobody", 0, x::mourned);
        x.hand(0, 1, 0);
        Checks.due("13: the man who goes by 0", 1, () -> x.die(0));
        Checks.due("32: the name, not the man", 1, x::mourned);
        Checks.due("39: whose name's man is dead", 1, x::crosswise);
        x.die(1);
        Checks.due("32: both", 3, x::mourned);
        Checks.due("39: not the dead", 0, x::crosswise);
    }

    private static void shared() {
        ScarArmy x = Checks.first();
        Checks.due("34: none", 0, () -> x.shared(0, 1));
        Checks.due("34: by truth, not by looks", 0, () -> x.shared(0, 2));
        Checks.army(x, "scar 5 of 5 in 2 depth 1 on 0;scar 5 of 5 in 0 depth 1 on 2 by 1");
        Checks.due("34: two", 5, () -> x.shared(2, 0));
        Checks.due("34: both are one", Checks.WRONG, () -> x.shared(1, 1));
        Checks.due("34: no man, told first", Checks.OUT, () -> x.shared(3, 3));
        Checks.due("34: no man", Checks.OUT, () -> x.shared(0, -1));
    }

    private static void routes() {
        ScarArmy x = Checks.with("battle 2 day 10 with 0;battle 5 day 12 with 2;battle 3 day 20 with 0;"
                + "battle 5 day 12 with 1;battle 5 day 13 with 1;battle 9 day 13 with 1");
        Object[][] rows = {{0, true}, {3, false}, {5, true}, {6, true}, {7, false}, {2 + 8, true}, {1 + 16, true},
            {16 + 32, false}, {1 + 32, false}, {-64, true}, {64 + 5, true}, {4 + 32, true}, {2 + 4 + 8 + 16, true}};
        for (Object[] r : rows) {
            Checks.due("35: route(" + r[0] + ")", r[1], () -> x.route((int) r[0]));
        }
        Checks.due("36: the most", 4, () -> x.campaign(false));
        Checks.due("36: which", 2 + 4 + 8 + 16, () -> x.campaign(true));
        ScarArmy y = Checks.first();
        Checks.due("36: the most of three", 2, () -> y.campaign(false));
        Checks.due("36: the least set of several", 5, () -> y.campaign(true));
    }

    private static void voidsAndLies() {
        ScarArmy x = Checks.first();
        Checks.due("37: none without a law", 0, x::voids);
        Checks.due("38: what does not fit", 16, x::lies);
        Checks.law(x, "void if not own;void if depth > 4");
        Checks.due("37: void", 4 + 8, x::voids);
        Checks.army(x, "today 19");
        Checks.due("38: yet to come", 16 + 8, x::lies);
        Checks.army(x, "today 20");
        Checks.due("38: of today", 16, x::lies);
        x.hand(3, 2, 0);
        Checks.due("37: own again", 4, x::voids);
    }

    private static void ledAndLog() {
        ScarArmy x = Checks.first();
        Checks.due("43: nothing yet", -1, () -> x.log(0, 0));
        x.hand(2, 0, 7);
        x.days(1);
        x.hand(0, 1, 3);
        x.hand(2, 1, 0);
        int[][] due = {{26, 2, 0, 1, 0}, {26, 0, 0, 1, 3}, {25, 2, 1, 0, 7}, {-1, -1, -1, -1, -1}};
        for (int ago = 0; ago < 4; ago++) {
            for (int what = 0; what < 5; what++) {
                int a = ago;
                int w = what;
                Checks.due("43: log(" + a + ", " + w + ")", due[a][w], () -> x.log(a, w));
            }
        }
        Checks.due("43: none so many ago", -1, () -> x.log(-1, 0));
        Checks.due("43: none so many ago", -1, () -> x.log(Integer.MIN_VALUE, 4));
        Checks.due("43: another what", Checks.NO_SUCH, () -> x.log(0, 5));
        Checks.due("43: another what, without a row", Checks.NO_SUCH, () -> x.log(9, -1));
        Checks.due("42: the town", 5, () -> x.led(2, false));
        Checks.due("42: how often", 2, () -> x.led(2, true));
        Checks.due("42: never", 0, () -> x.led(4, true));
        Checks.due("42: no scar", Checks.OUT, () -> x.led(5, true));
        Checks.due("42: no scar", Checks.OUT, () -> x.led(-1, false));
        for (int i = 0; i < 60; i++) {
            x.hand(0, i % 2 == 0 ? 0 : 1, i % 2);
        }
        Checks.due("43: sixty rows", 60, () -> x.count(8));
        Checks.due("43: the latest", 1, () -> x.log(0, 4));
        Checks.due("43: the first of sixty", 0, () -> x.log(59, 4));
        Checks.due("43: no 61st", -1, () -> x.log(60, 4));
        Checks.due("42: by the log alone", 0, () -> x.led(2, true));
        Checks.due("42: by the log alone", 60, () -> x.led(0, true));
        Checks.due("9: the price by the log alone", 20, () -> x.scar(2, 8));
    }

    private static void count() {
        ScarArmy x = Checks.first();
        x.die(1);
        x.hand(0, 2, 0);
        int[] due = {3, 3, 5, 1, -1, 25, 5, 150, 1, 2, 13};
        for (int what = 0; what < due.length; what++) {
            int asked = what;
            Checks.due("48: count(" + what + ")", due[what], () -> x.count(asked));
        }
        Checks.due("48: another what", -1, () -> x.count(11));
        Checks.due("48: another what", -1, () -> x.count(-1));
        Checks.law(x, "worth 2;void if ear");
        Checks.due("48: lines", 2, () -> x.count(4));
        Checks.due("48: worth of all", 4, () -> x.count(10));
    }
}
