/** Promises 11 to 17, 31, 33, 40, 41, 44 to 47: acts, trials of them, and the way back. */
public final class ActsTest {
    private ActsTest() {
    }

    public static void main(String[] args) {
        hand();
        polish();
        die();
        widow();
        wound();
        days();
        daysAtTheEdges();
        market();
        trialAndSpan();
        hands();
        after();
        seed();
        undo();
        undoOfEach();
        image();
        throwsChangeNothing();
        Checks.close();
    }

    private static void hand() {
        ScarArmy x = Checks.first();
        Checks.due("11: the name of who bore it", 1, () -> x.hand(3, 1, 4));
        Checks.due("11: who bears it", 1, () -> x.scar(3, 6));
        Checks.due("11: whom it was cut on", 2, () -> x.scar(3, 5));
        Checks.due("11: names", 1, () -> x.man(0, 1));
        Checks.due("11: names", 0, () -> x.man(1, 1));
        Checks.due("11: coins", 104, () -> x.man(0, 2));
        Checks.due("11: coins", 46, () -> x.man(1, 2));
        Checks.due("11: all one has", 0, () -> x.hand(0, 1, 46));
        Checks.due("11: coins", 0, () -> x.man(1, 2));
        Checks.due("11: has not so much", Checks.STATE, () -> x.hand(4, 1, 1));
        Checks.due("11: for nothing", 0, () -> x.hand(0, 0, 0));
        Checks.due("11: both are one", Checks.WRONG, () -> x.hand(0, 0, 0));
        Checks.due("11: no pay", Checks.WRONG, () -> x.hand(0, 1, -1));
        Checks.due("11: no pay", Checks.WRONG, () -> x.hand(0, 1, 10000));
        Checks.due("11: has not so much", Checks.STATE, () -> x.hand(0, 1, 9999));
        Checks.due("11: no scar, told first", Checks.OUT, () -> x.hand(5, 0, -1));
        Checks.due("11: no scar", Checks.OUT, () -> x.hand(-1, 0, 0));
        Checks.due("11: no man, told first", Checks.OUT, () -> x.hand(0, 3, -1));
        Checks.due("11: no man", Checks.OUT, () -> x.hand(0, -1, 0));
        x.die(x.man(2, 1));
        Checks.due("11: the other one is dead", Checks.STATE, () -> x.hand(0, 2, 0));
        Checks.due("11: who bears it is dead", Checks.STATE, () -> x.hand(4, 0, 0));
        Checks.due("11: both are one, told first", Checks.WRONG, () -> x.hand(4, 2, 0));
        Checks.due("11: no pay, told first", Checks.WRONG, () -> x.hand(0, 2, 10000));
        ScarArmy y = Checks.with("battle 0 day 0 with 0;man 9990;man 9999;scar 0 of 0 in 0 depth 1 on 0");
        Checks.due("11: more than fits", 1, () -> y.hand(0, 1, 9999));
        Checks.due("11: the rest is lost", 9999, () -> y.man(0, 2));
        Checks.due("11: all was paid", 0, () -> y.man(1, 2));
        Checks.due("11: the log has the pay", 9999, () -> y.log(0, 4));
    }

    private static void polish() {
        ScarArmy x = Checks.first();
        Checks.army(x, "told 0 7");
        Checks.due("12: told", 8, () -> x.polish(0, 0));
        Checks.due("12: by that trade it was", Checks.STATE, () -> x.polish(0, 0));
        Checks.due("12: told", 9, () -> x.polish(0, 2));
        Checks.due("12: 9 at most", 9, () -> x.polish(0, 1));
        Checks.due("12: by that trade it was, all the same", Checks.STATE, () -> x.polish(0, 1));
        Checks.due("12: another scar", 1, () -> x.polish(1, 0));
        Checks.due("12: no trade", Checks.OUT, () -> x.polish(0, 3));
        Checks.due("12: no trade", Checks.OUT, () -> x.polish(0, -1));
        Checks.due("12: no scar", Checks.OUT, () -> x.polish(5, 0));
        Checks.army(x, "dead 0;told 0 2");
        Checks.due("12: a text does not undo trades", Checks.STATE, () -> x.polish(0, 1));
        Checks.due("12: a dead one's", 1, () -> x.polish(3, 1));
    }

    private static void die() {
        ScarArmy x = Checks.first();
        x.hand(0, 2, 0);
        Checks.due("13: who goes by it", 2, () -> x.die(0));
        Checks.due("13: alive", 3, () -> x.count(6));
        Checks.due("13: dead already", Checks.STATE, () -> x.die(0));
        Checks.due("13: the other one", 0, () -> x.die(2));
        Checks.due("13: no name", Checks.OUT, () -> x.die(3));
        Checks.due("13: no name", Checks.OUT, () -> x.die(-1));
        Checks.due("13: coins stay", 150, () -> x.count(7));
    }

    private static void widow() {
        ScarArmy x = Checks.first();
        x.hand(0, 2, 0);
        x.hand(0, 0, 0);
        x.hand(0, 1, 0);
        x.die(x.man(0, 1));
        Checks.due("14: scars", 2, () -> x.widow(0, 2));
        Checks.due("14: coins", 100, () -> x.man(2, 2));
        Checks.due("14: coins", 0, () -> x.man(0, 2));
        Checks.due("14: names stay", 1, () -> x.man(0, 1));
        Checks.due("14: bears them", 2 + 8 + 16, () -> x.man(2, 3));
        Checks.due("14: not in the log", 3, () -> x.count(8));
        Checks.due("14: none are left", 0, () -> x.widow(0, 2));
        Checks.due("14: both are one", Checks.WRONG, () -> x.widow(0, 0));
        Checks.due("14: alive", Checks.STATE, () -> x.widow(1, 2));
        x.die(x.man(1, 1));
        Checks.due("14: both are dead", Checks.STATE, () -> x.widow(0, 1));
        Checks.due("14: alive, and the other one dead", Checks.STATE, () -> x.widow(2, 1));
        Checks.due("14: no man, told first", Checks.OUT, () -> x.widow(3, 3));
        Checks.due("14: no man", Checks.OUT, () -> x.widow(0, -1));
        ScarArmy y = Checks.with("man 9000;man 2000;dead 1");
        y.widow(1, 0);
        Checks.due("14: 9999 at most", 9999, () -> y.count(7));
    }

    private static void wound() {
        ScarArmy x = Checks.first();
        Checks.due("15: its number", 5, () -> x.wound(11, 5, 2, 9, 1));
        int[] due = {11, 5, 2, 9, 0, 1, 1, 9, 36, 0, 0};
        for (int what = 0; what < due.length; what++) {
            int asked = what;
            Checks.due("15: scar(5, " + what + ")", due[what], () -> x.scar(5, asked));
        }
        int[][] none = {{12, 0, 0, 1, 0}, {-1, 0, 0, 1, 0}, {0, 6, 0, 1, 0}, {0, -1, 0, 1, 0}, {0, 0, 3, 1, 0},
            {0, 0, -1, 1, 0}, {0, 0, 0, 1, 3}, {0, 0, 0, 1, -1}, {12, 0, 0, 0, 0}, {0, 0, 0, 10, 3}};
        for (int[] n : none) {
            Checks.due("15: none", Checks.OUT, () -> x.wound(n[0], n[1], n[2], n[3], n[4]));
        }
        Checks.due("15: no depth", Checks.WRONG, () -> x.wound(0, 0, 0, 0, 0));
        Checks.due("15: no depth", Checks.WRONG, () -> x.wound(0, 0, 0, 10, 0));
        x.die(2);
        Checks.due("15: dead", Checks.STATE, () -> x.wound(0, 0, 0, 1, 2));
        Checks.due("15: no depth, told first", Checks.WRONG, () -> x.wound(0, 0, 0, 0, 2));
        for (int n = 6; n < 24; n++) {
            Checks.due("15: scar " + n, n, () -> x.wound(0, 0, 0, 1, 0));
        }
        Checks.due("15: there are 24", Checks.FULL, () -> x.wound(0, 0, 0, 1, 0));
        Checks.due("15: dead, told first", Checks.STATE, () -> x.wound(0, 0, 0, 1, 2));
        x.polish(23, 0);
        x.undo();
        x.undo();
        Checks.due("15: again", 23, () -> x.wound(0, 0, 0, 1, 0));
        Checks.due("15: of the undone one nothing", 0, () -> x.scar(23, 9));
    }

    private static void days() {
        ScarArmy x = Checks.first();
        x.hand(0, 1, 0);
        Checks.due("16: none got", 0, () -> x.days(4));
        Checks.due("16: today", 29, () -> x.count(5));
        Checks.due("16: all got", 13, () -> x.days(1));
        // man 0 goes by 1 and gets 5, man 1 goes by 0 and gets 3 + 2, man 2 gets 1 + 2
        Checks.due("16: by the name", 105, () -> x.man(0, 2));
        Checks.due("16: by the name", 55, () -> x.man(1, 2));
        Checks.due("16: by the name", 3, () -> x.man(2, 2));
        Checks.due("16: not on the day itself again", 0, () -> x.days(29));
        x.die(2);
        Checks.due("16: two pensions, not of the dead", 20, () -> x.days(31));
        Checks.due("16: today", 90, () -> x.count(5));
        Checks.due("16: none", Checks.WRONG, () -> x.days(0));
        Checks.due("16: none", Checks.WRONG, () -> x.days(401));
        Checks.due("16: none", Checks.WRONG, () -> x.days(-1));
        Checks.law(x, "worth 1 if days > 100");
        // day 120: battles of day 10 and 12 are over 100 days ago, that of day 20 is not
        Checks.due("16: worth of that day", 3, () -> x.days(30));
    }

    private static void daysAtTheEdges() {
        ScarArmy x = Checks.with("battle 0 day 0 with 0;man 9990;man 0;scar 0 of 0 in 0 depth 9 on 0;"
                + "scar 0 of 0 in 0 depth 9 on 1;today 999");
        Checks.due("16: coins that fit", 9 + 9, () -> x.days(21));
        Checks.due("16: what does not fit is not got", 9, () -> x.days(30));
        Checks.due("16: coins", 9999, () -> x.man(0, 2));
        for (int i = 0; i < 22; i++) {
            x.days(400);
        }
        Checks.due("16: today", 9850, () -> x.count(5));
        x.days(139);
        Checks.due("16: the last pension", 9, () -> x.days(400));
        Checks.due("16: 9999 at most", 9999, () -> x.count(5));
        Checks.due("16: no more days", 0, () -> x.days(400));
        Checks.due("33: no more days", 9 * 333 - 9 * 33, () -> x.after(1, 400));
    }

    private static void market() {
        ScarArmy x = Checks.first();
        Checks.due("17: none", 0, () -> x.market(0));
        Checks.due("17: an act all the same", 1, () -> x.count(9));
        // from seed 1 the first draw is 16838: scar 3, of 0 to 1, who gains 11, for 1 * 3 + 1
        Checks.due("17: one", 1, () -> x.market(1));
        Checks.due("17: who bears it", 1, () -> x.scar(3, 6));
        Checks.due("17: coins", 104, () -> x.man(0, 2));
        Checks.due("17: names", 1, () -> x.man(0, 1));
        Checks.due("17: the log", 4, () -> x.log(0, 4));
        Checks.due("17: the seed went on", 1103527590, () -> x.seed(1103527590));
        Checks.due("17: undone", true, x::undo);
        Checks.due("17: the seed, too", 1, () -> x.seed(1));
        Checks.due("17: none", Checks.WRONG, () -> x.market(-1));
        Checks.due("17: none", Checks.WRONG, () -> x.market(31));
        ScarArmy dead = Checks.with("battle 0 day 0 with 0;man 9;man 9;scar 0 of 0 in 0 depth 1 on 0;dead 0");
        Checks.due("17: not a dead one's", 0, () -> dead.market(30));
        ScarArmy alone = Checks.with("battle 0 day 0 with 0;man 9;scar 0 of 0 in 0 depth 1 on 0");
        Checks.due("17: no buyer", 0, () -> alone.market(30));
        ScarArmy poor = Checks.with("battle 0 day 0 with 0;man 0;man 3;scar 0 of 0 in 0 depth 1 on 0");
        Checks.due("17: has not so much", 0, () -> poor.market(30));
        Checks.due("17: drawn all the same", false, () -> poor.seed(1) == 1);
        // prices 4 and 2, and from then on 0
        ScarArmy two = Checks.with("battle 0 day 0 with 0;man 0;man 4;scar 0 of 0 in 0 depth 1 on 0");
        Checks.due("17: to and fro", 30, () -> two.market(30));
        Checks.due("17: coins of the first", 2, () -> two.man(0, 2));
    }

    private static void trialAndSpan() {
        ScarArmy x = Checks.first();
        Checks.due("40: one", 1, () -> x.trial(1, false));
        Checks.due("40: coins", 4, () -> x.trial(1, true));
        Checks.due("40: none", 0, () -> x.trial(0, true));
        Checks.due("40: nothing stays", 0, () -> x.count(8) + x.scar(3, 6) + x.count(9));
        Checks.due("40: the seed stays", 1, () -> x.seed(1));
        int sold = x.trial(30, false);
        x.seed(6);
        int other = x.trial(30, false);
        Checks.due("41: the fewest of six at most that", true,
                () -> x.span(30, false) <= Math.min(sold, other));
        Checks.due("41: the most of six at least that", true,
                () -> x.span(30, true) >= Math.max(sold, other));
        Checks.due("41: nothing stays", 6, () -> x.seed(6));
        Checks.due("41: none", 0, () -> x.span(0, true));
        Checks.due("40: no number", Checks.WRONG, () -> x.trial(31, true));
        Checks.due("40: no number", Checks.WRONG, () -> x.trial(-1, false));
        Checks.due("41: no number", Checks.WRONG, () -> x.span(31, true));
        Checks.due("41: no number", Checks.WRONG, () -> x.span(-1, false));
        spanOfOneSale();
    }

    /** Scars of even number are sold, of odd number never: the first draws of six seeds tell both. */
    private static void spanOfOneSale() {
        ScarArmy x = Checks.with("battle 0 day 0 with 0;man 9999;man 0;man 9999;scar 0 of 0 in 0 depth 1 on 0;"
                + "scar 0 of 0 in 0 depth 1 on 1;dead 1");
        int fewest = 1;
        int most = 0;
        for (int seed = 1; seed <= 6; seed++) {
            int draw = (1103515245 * seed + 12345) >>> 16 & 0x7fff;
            fewest = Math.min(fewest, 1 - draw % 2);
            most = Math.max(most, 1 - draw % 2);
        }
        Checks.due("41: the fewest", fewest, () -> x.span(1, false));
        Checks.due("41: the most", most, () -> x.span(1, true));
    }

    private static void hands() {
        ScarArmy x = Checks.first();
        Checks.due("31: who bears it", 0, () -> x.hands(3, 0));
        Checks.due("31: never handed", -1, () -> x.hands(3, 1));
        x.hand(3, 1, 0);
        x.hand(0, 2, 0);
        x.hand(3, 2, 0);
        int[] due = {2, 1, 0, -1};
        for (int k = 0; k < due.length; k++) {
            int ago = k;
            Checks.due("31: hands(3, " + k + ")", due[k], () -> x.hands(3, ago));
        }
        x.die(x.man(2, 1));
        x.widow(2, 0);
        Checks.due("31: who bears it", 0, () -> x.hands(3, 0));
        Checks.due("31: by the log", 1, () -> x.hands(3, 1));
        Checks.due("31: far beyond", -1, () -> x.hands(3, Integer.MAX_VALUE));
        Checks.due("31: no k", Checks.WRONG, () -> x.hands(3, -1));
        Checks.due("31: no scar, told first", Checks.OUT, () -> x.hands(5, -1));
        for (int i = 0; i < 60; i++) {
            x.hand(1, i % 2 == 0 ? 1 : 0, 0);
        }
        Checks.due("31: the log does not tell any more", -1, () -> x.hands(3, 1));
        Checks.due("31: the 60th ago", 0, () -> x.hands(1, 60));
        Checks.due("31: the 61st ago", -1, () -> x.hands(1, 61));
    }

    private static void after() {
        ScarArmy x = Checks.first();
        Checks.due("33: now", 100, () -> x.after(0, 0));
        Checks.due("33: ahead of it", 100, () -> x.after(0, 4));
        Checks.due("33: one pension", 105, () -> x.after(0, 5));
        Checks.due("33: 14 pensions", 100 + 14 * 5, () -> x.after(0, 400));
        Checks.due("33: nothing stays", 25, () -> x.count(5));
        Checks.due("33: nothing stays", 150, () -> x.count(7));
        Checks.due("33: no act", 0, () -> x.count(9));
        Checks.due("33: no number", Checks.WRONG, () -> x.after(0, -1));
        Checks.due("33: no number", Checks.WRONG, () -> x.after(0, 401));
        Checks.due("33: no man, told first", Checks.OUT, () -> x.after(3, 401));
        x.die(0);
        Checks.due("33: the dead get none", 100, () -> x.after(0, 400));
    }

    private static void seed() {
        ScarArmy x = Checks.first();
        Checks.due("44: at first", 1, () -> x.seed(-5));
        Checks.due("44: then", -5, () -> x.seed(1 << 31));
        Checks.due("44: no act", 0, () -> x.count(9));
        Checks.due("44: then", 1 << 31, () -> x.seed(3));
        x.hand(0, 1, 0);
        x.seed(9);
        x.undo();
        Checks.due("44: all is as ahead of the act", 3, () -> x.seed(3));
    }

    private static void undo() {
        ScarArmy x = Checks.first();
        Checks.due("45: none", false, x::undo);
        for (int i = 1; i <= 14; i++) {
            x.days(1);
            int most = Math.min(12, i);
            Checks.due("45: remembered", most, () -> x.count(9));
        }
        for (int i = 11; i >= 0; i--) {
            int left = i;
            Checks.due("45: one", true, x::undo);
            Checks.due("45: today", 27 + left, () -> x.count(5));
            Checks.due("45: remembered", left, () -> x.count(9));
        }
        Checks.due("45: twelve and no more", false, x::undo);
        Checks.due("45: nothing happened", 27, () -> x.count(5));
        x.days(1);
        Checks.law(x, "worth 5");
        Checks.due("45: a law, none are remembered", 0, () -> x.count(9));
        x.days(1);
        Checks.armyFault(x, "x");
        Checks.lawFault(x, "x");
        Checks.due("45: wrong texts change nothing", 1, () -> x.count(9));
        Checks.army(x, "");
        Checks.due("45: a text, none are remembered", false, x::undo);
        x.days(1);
        x.image();
        Checks.due("45: an image leaves them", 1, () -> x.count(9));
        x.feed(0x6d616e20, 0x31000000, 0, 0, 0);
        Checks.due("45: undone", true, x::undo);
        x.end(5);
        Checks.due("45: the tape stays", 3, x::army);
        x.days(1);
        x.back();
        Checks.due("45: going back, none are remembered", false, x::undo);
    }

    private static void undoOfEach() {
        ScarArmy x = Checks.first();
        x.polish(0, 0);
        x.hand(3, 1, 9);
        x.die(1);
        x.widow(0, 1);
        x.wound(0, 0, 0, 1, 1);
        x.days(40);
        x.market(5);
        for (int i = 0; i < 7; i++) {
            Checks.due("45: undone", true, x::undo);
        }
        int[] due = {3, 3, 5, 1, -1, 25, 7, 150, 0, 0, 13};
        for (int what = 0; what < due.length; what++) {
            int asked = what;
            Checks.due("45: count(" + what + ")", due[what], () -> x.count(asked));
        }
        Checks.due("45: names", 0, () -> x.man(0, 1));
        Checks.due("45: coins", 100, () -> x.man(0, 2));
        Checks.due("45: bearers", 11, () -> x.man(0, 3));
        Checks.due("45: trades", 0, () -> x.scar(0, 9));
        Checks.due("45: seed", 1, () -> x.seed(1));
    }

    private static void image() {
        ScarArmy x = Checks.first();
        Checks.due("47: none was kept", false, x::back);
        x.hand(3, 1, 4);
        Checks.law(x, "worth 5");
        x.days(1);
        x.image();
        x.seed(99);
        x.hand(0, 1, 1);
        Checks.army(x, "man 9;scar 1 of 1 in 1 depth 1 on 3;today 9");
        Checks.law(x, "worth 5;less 1");
        x.feed(0x6d616e20, 0x31000000, 0, 0, 0);
        Checks.due("47: back", true, x::back);
        int[] due = {3, 3, 5, 1, 1, 26, 7, 150, 1, 0, 25};
        for (int what = 0; what < due.length; what++) {
            int asked = what;
            Checks.due("47: count(" + what + ")", due[what], () -> x.count(asked));
        }
        Checks.due("47: seed", 1, () -> x.seed(1));
        Checks.due("47: the tape stays", true, () -> x.end(5));
        Checks.due("47: a text behind it", 2, x::army);
        x.die(0);
        Checks.due("47: back once more", true, x::back);
        Checks.due("47: the image stays as it was", 3, () -> x.count(1));
        Checks.due("47: alive", 7, () -> x.count(6));
        x.die(0);
        x.image();
        x.die(1);
        x.back();
        Checks.due("46: the latest one is kept", 1, () -> Integer.bitCount(7 & ~x.count(6)));
    }

    private static void throwsChangeNothing() {
        ScarArmy x = Checks.first();
        x.hand(3, 1, 4);
        Checks.answer(() -> x.hand(3, 1, 0));
        Checks.answer(() -> x.hand(0, 2, 50));
        Checks.answer(() -> x.polish(0, 3));
        Checks.answer(() -> x.die(3));
        Checks.answer(() -> x.widow(0, 1));
        Checks.answer(() -> x.wound(0, 0, 0, 0, 0));
        Checks.answer(() -> x.days(0));
        Checks.answer(() -> x.market(31));
        Checks.due("45: what throws is no act", 1, () -> x.count(9));
        Checks.due("45: the latest act", true, x::undo);
        Checks.due("45: is undone", 0, () -> x.count(8));
        Checks.due("45: and no other one", false, x::undo);
    }
}
