/** Promises 19 to 26 and 30: what is found among many sets. */
public final class SearchTest {
    private SearchTest() {
    }

    public static void main(String[] args) {
        his();
        largest();
        betrays();
        moreThanTwelve();
        fewest();
        least();
        leastAsIfBorne();
        gainsAndBuyer();
        enemies();
        wrongEnemies();
        bargain();
        Checks.close();
    }

    private static void his() {
        ScarArmy x = Checks.first();
        Object[][] rows = {{0, true}, {3, true}, {10, false}, {5, false}, {9, true}, {12, true}, {17, false},
            {-32, true}, {32 + 3, true}, {31, false}};
        for (Object[] r : rows) {
            Checks.due("19: his(" + r[0] + ")", r[1], () -> x.his((int) r[0]));
        }
        Checks.law(x, "void if depth > 2");
        Checks.due("19: a void one", false, () -> x.his(1));
        Checks.due("19: without it", true, () -> x.his(2));
        ScarArmy y = Checks.with("battle 1 day 5 with 0;battle 1 day 5 with 0;battle 2 day 5 with 0;battle 4 day 8 with 0;"
                + "man 0;scar 0 of 0 in 0 depth 1 on 0;scar 1 of 0 in 1 depth 1 on 0;scar 2 of 0 in 2 depth 1 on 0;"
                + "scar 3 of 0 in 3 depth 1 on 0");
        Checks.due("19: in one town on one day", true, () -> y.his(3));
        Checks.due("19: in two towns on one day", false, () -> y.his(5));
        Checks.due("19: just in time", true, () -> y.his(1 + 8));
    }

    private static void largest() {
        ScarArmy x = Checks.first();
        Checks.due("20: how many", 2, () -> x.largest(0, false));
        Checks.due("20: the least of two sets", 3, () -> x.largest(0, true));
        Checks.due("20: one alone", 4, () -> x.largest(1, true));
        Checks.law(x, "void if place < 1");
        Checks.due("20: without void ones", 2, () -> x.largest(0, true));
        Checks.due("20: none", 0, () -> x.largest(2, true));
        Checks.due("20: none", 0, () -> x.largest(2, false));
        Checks.due("20: no man", Checks.OUT, () -> x.largest(3, true));
        Checks.due("20: no man", Checks.OUT, () -> x.largest(-1, false));
        ScarArmy y = Checks.with("battle 0 day 0 with 0;battle 9 day 0 with 0;man 0;scar 0 of 0 in 1 depth 1 on 0;"
                + "scar 0 of 0 in 0 depth 1 on 0;scar 1 of 0 in 0 depth 1 on 0;scar 2 of 0 in 0 depth 1 on 0;"
                + "scar 3 of 0 in 1 depth 1 on 0;scar 4 of 0 in 1 depth 1 on 0");
        Checks.due("20: more before the least set", 2 + 4 + 8, () -> y.largest(0, true));
        Checks.army(y, "scar 5 of 0 in 1 depth 1 on 0");
        Checks.due("20: the most", 1 + 16 + 32 + 64, () -> y.largest(0, true));
    }

    private static void betrays() {
        ScarArmy x = Checks.first();
        Checks.due("21: each of two", 10, () -> x.betrays(0));
        Checks.due("21: all are his", 0, () -> x.betrays(1));
        Checks.law(x, "void if place < 1");
        Checks.due("21: none alone", 0, () -> x.betrays(0));
        Checks.due("21: the one that is void", 16, () -> x.betrays(2));
        Checks.law(x, "void if depth < 2");
        Checks.due("21: one of two, the void one", 8, () -> x.betrays(0));
        Checks.due("21: no man", Checks.OUT, () -> x.betrays(3));
        Checks.due("21: no man", Checks.OUT, () -> x.betrays(-1));
    }

    private static void moreThanTwelve() {
        ScarArmy x = Checks.with("battle 0 day 0 with 0;man 9;man 9");
        for (int i = 0; i < 12; i++) {
            x.wound(i, 0, 0, 1, 0);
        }
        Checks.due("20: twelve", 12, () -> x.largest(0, false));
        Checks.due("20: twelve", 4095, () -> x.largest(0, true));
        Checks.due("21: twelve", 0, () -> x.betrays(0));
        Checks.due("23: twelve", 4 * 11, () -> x.least(1, 11, false));
        Checks.due("23: twelve", 2047, () -> x.least(1, 11, true));
        Checks.due("23: more than all", -1, () -> x.least(1, 13, false));
        x.wound(0, 0, 0, 1, 0);
        Checks.due("20: 13", -3, () -> x.largest(0, false));
        Checks.due("20: 13", -3, () -> x.largest(0, true));
        Checks.due("21: 13", -3, () -> x.betrays(0));
        Checks.due("23: 13", -3, () -> x.least(1, 11, false));
        Checks.due("23: 13", -3, () -> x.least(1, 0, true));
        Checks.due("23: of those of others", 0, () -> x.least(0, 13, false));
        Checks.due("23: no looks, told first", Checks.WRONG, () -> x.least(1, 1000, true));
        x.die(0);
        Checks.due("23: not of the dead", -1, () -> x.least(1, 1, false));
        Checks.due("20: dead or not", -3, () -> x.largest(0, false));
        Checks.due("19: a set may have more", false, () -> x.his(8191));
    }

    private static void fewest() {
        ScarArmy x = Checks.first();
        Checks.due("22: two", 3, x::fewest);
        x.hand(2, 0, 0);
        Checks.due("22: one", 1, x::fewest);
        Checks.army(x, "dead 0");
        Checks.due("22: dead or not", 1, x::fewest);
        ScarArmy y = Checks.with("battle 0 day 0 with 0;battle 0 day 0 with 0;battle 0 day 0 with 0;man 0;man 0;man 0;man 0;"
                + "scar 0 of 0 in 0 depth 1 on 0;scar 0 of 0 in 1 depth 1 on 1;scar 0 of 0 in 0 depth 1 on 2;"
                + "scar 0 of 0 in 1 depth 1 on 3");
        Checks.due("22: the least of four", 3, y::fewest);
        Checks.army(y, "scar 0 of 0 in 2 depth 1 on 2");
        Checks.due("22: two again", 6, y::fewest);
        ScarArmy z = Checks.with("battle 0 day 0 with 0;man 0");
        Checks.due("22: without scars", 0, z::fewest);
    }

    private static void least() {
        ScarArmy x = Checks.first();
        Object[][] rows = {{1, 7, 8, 2}, {1, 5, 0, 0}, {1, 0, 0, 0}, {1, 6, 4, 8}, {1, 8, 12, 1}, {1, 100, -1, -1},
            {1, 13, 32, 27}, {1, 14, -1, -1}, {0, 7, 8, 16}, {0, 9, 20, 4}, {2, 13, 44, 15}, {2, 999, -1, -1}};
        for (Object[] r : rows) {
            Checks.due("23: pay of " + r[0] + " for " + r[1], r[2], () -> x.least((int) r[0], (int) r[1], false));
            Checks.due("23: which of " + r[0] + " for " + r[1], r[3], () -> x.least((int) r[0], (int) r[1], true));
        }
        Checks.due("23: no looks", Checks.WRONG, () -> x.least(0, -1, true));
        Checks.due("23: no looks", Checks.WRONG, () -> x.least(0, 1000, true));
        x.die(1);
        Checks.due("23: dead", Checks.STATE, () -> x.least(1, 5, true));
        Checks.due("23: no looks, told first", Checks.WRONG, () -> x.least(1, 1000, true));
        Checks.due("23: no man, told first", Checks.OUT, () -> x.least(3, 1000, true));
        Checks.due("23: no man", Checks.OUT, () -> x.least(-1, 5, true));
        Checks.due("23: none of the dead one", -1, () -> x.least(0, 9, false));
    }

    private static void leastAsIfBorne() {
        ScarArmy x = Checks.first();
        Checks.law(x, "worth 10 if own;worth 4 if bearer > 1;worth 1");
        // to man 2: scar 3 is his own (15), all else 5; now scar 3 is worth 1 and costs 4
        Checks.due("23: worth as if borne", 4, () -> x.least(2, 30, false));
        Checks.due("23: which", 8, () -> x.least(2, 30, true));
        Checks.due("23: ears do not count", -1, () -> x.least(2, 46, false));
        Checks.due("23: all", 4 + 36 + 35 + 38, () -> x.least(2, 45, false));
        Checks.due("23: all", 15, () -> x.least(2, 45, true));
        Checks.due("24: as if borne", 15, () -> x.gains(2, 3));
    }

    private static void gainsAndBuyer() {
        ScarArmy x = Checks.first();
        Object[][] rows = {{1, 1, 12}, {1, 0, 3}, {0, 2, 15}, {0, 0, 0}, {2, 2, 5}, {1, 3, 11}, {1, 2, 0}};
        for (Object[] r : rows) {
            Checks.due("24: gains(" + r[0] + ", " + r[1] + ")", r[2], () -> x.gains((int) r[0], (int) r[1]));
        }
        Checks.due("25: who gains the pair", 0, () -> x.buyer(2));
        Checks.due("25: the least of two", 1, () -> x.buyer(0));
        Checks.due("25: not who bears it", 0, () -> x.buyer(4));
        x.hand(1, 1, 0);
        Checks.due("24: a pair already", 1, () -> x.gains(1, 3));
        Checks.army(x, "dead 1");
        Checks.due("24: dead or not", 1, () -> x.gains(1, 3));
        Checks.due("25: alive alone", 2, () -> x.buyer(0));
        Checks.due("25: of a dead one's", 0, () -> x.buyer(2));
        Checks.army(x, "dead 2");
        Checks.due("25: none", -1, () -> x.buyer(0));
        Checks.due("25: who gains nothing buys, too", 0, () -> x.buyer(4));
        Checks.law(x, "void");
        Checks.due("24: void, but the pair", 10, () -> x.gains(0, 2));
        Checks.due("24: void", 0, () -> x.gains(0, 4));
        Checks.due("24: no man", Checks.OUT, () -> x.gains(3, 0));
        Checks.due("24: no scar", Checks.OUT, () -> x.gains(0, 5));
        Checks.due("25: no scar", Checks.OUT, () -> x.buyer(5));
        Checks.due("25: no scar", Checks.OUT, () -> x.buyer(-1));
    }

    private static void enemies() {
        ScarArmy x = Checks.first();
        Checks.due("26: both mean one", 1, () -> Checks.enemies(x, -1, 0, 0, 2, 0));
        Checks.due("26: whom the second means", 1, () -> Checks.enemies(x, 1, 0, 0, 2, 0));
        Checks.due("26: two", 2, () -> Checks.enemies(x, -1, 0, 0, 0, 4));
        Checks.due("26: nobody", 0, () -> Checks.enemies(x, 0, 5, 5));
        Checks.due("26: none told", 0, () -> Checks.enemies(x, -1));
        ScarArmy y = Checks.with("battle 0 day 0 with 0;man 0;man 0;man 0;man 0;scar 1 of 1 in 0 depth 1 on 0;"
                + "scar 1 of 1 in 0 depth 1 on 1;scar 2 of 2 in 0 depth 1 on 0;scar 3 of 3 in 0 depth 1 on 1;"
                + "scar 3 of 3 in 0 depth 1 on 2;scar 4 of 4 in 0 depth 1 on 3 by 2");
        Checks.due("26: moved on twice", 3, () -> Checks.enemies(y, -1, 1, 1, 3, 3, 2, 2));
        Checks.due("26: moved on, none left", 3, () -> Checks.enemies(y, -1, 1, 1, 3, 3, 2, 2, 4, 4));
        Checks.due("26: whom the first means", 3, () -> Checks.enemies(y, 0, 1, 1));
        Checks.due("26: who bears it", 4, () -> Checks.enemies(y, 0, 4, 4));
        Checks.army(y, "dead 1");
        Checks.due("26: the dead do not count", 1, () -> Checks.enemies(y, 0, 1, 1));
        Checks.due("26: the dead do not count", 2, () -> Checks.enemies(y, -1, 1, 1, 3, 3, 2, 2));
        Checks.due("26: ten of them", 2, () -> Checks.enemies(y, -1, 1, 1, 3, 3, 2, 2, 1, 1, 3, 3, 2, 2, 1, 1, 3, 3,
                2, 2, 11, 5));
    }

    private static void wrongEnemies() {
        ScarArmy x = Checks.first();
        Checks.due("26: no such enemy", Checks.WRONG, () -> Checks.enemies(x, 2, 0, 0, 2, 0));
        Checks.due("26: no such enemy", Checks.WRONG, () -> Checks.enemies(x, -2, 0, 0, 2, 0));
        Checks.due("26: used up", false, () -> x.end(1));
        Checks.due("26: no such enemy of none", Checks.WRONG, () -> Checks.enemies(x, 0));
        Checks.due("26: half an enemy", Checks.WRONG, () -> Checks.enemies(x, -1, 0));
        Checks.due("26: no place", Checks.WRONG, () -> Checks.enemies(x, -1, 12, 0));
        Checks.due("26: no weapon", Checks.WRONG, () -> Checks.enemies(x, -1, 0, 6));
        Checks.due("26: no weapon", Checks.WRONG, () -> Checks.enemies(x, -1, 0, 255));
        Checks.due("26: no place", Checks.WRONG, () -> Checks.enemies(x, -1, 0, 0, 200, 0));
        Checks.due("26: eleven", Checks.WRONG, () -> Checks.enemies(x, -1, new int[22]));
        Checks.due("26: used up", false, () -> x.end(1));
        Checks.due("26: no fault of a text", -1, x::fault);
        x.days(1);
        Checks.enemies(x, -1, 0, 0);
        Checks.due("26: no text, acts stay remembered", 1, () -> x.count(9));
    }

    private static void bargain() {
        ScarArmy x = Checks.first();
        Checks.due("30: which", 3, () -> x.bargain(false));
        Checks.due("30: how much", 29, () -> x.bargain(true));
        ScarArmy y = Checks.with("battle 0 day 0 with 0;man 0;man 0;scar 0 of 0 in 0 depth 5 on 0;"
                + "scar 1 of 0 in 0 depth 3 on 0;scar 4 of 0 in 0 depth 3 on 1");
        Checks.due("30: below 0", -3, () -> y.bargain(true));
        Checks.due("30: the least of several", 1, () -> y.bargain(false));
        Checks.army(y, "dead 0");
        Checks.due("30: no buyer", -1, () -> y.bargain(false));
        Checks.due("30: no buyer", 0, () -> y.bargain(true));
        Checks.army(y, "man 0");
        Checks.due("30: not a dead one's", 2, () -> y.bargain(false));
        Checks.due("30: gains 3, price 12", -3, () -> y.bargain(true));
    }
}
