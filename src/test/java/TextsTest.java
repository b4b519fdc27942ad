/** Promises 1 to 6: a new object, the tape, and the texts with their first wrong byte. */
public final class TextsTest {
    private static final String BASE = "battle 2 day 10 with 0 1;man 5;scar 0 of 0 in 0 depth 1 on 0";

    private TextsTest() {
    }

    public static void main(String[] args) {
        newObject();
        feed();
        end();
        army();
        armyLines();
        armyFaults();
        armyTooMany();
        law();
        lawFaults();
        lawNesting();
        lawMeaning();
        fault();
        Checks.close();
    }

    private static void newObject() {
        ScarArmy x = new ScarArmy();
        int[] counts = {0, 0, 0, 0, -1, 0, 0, 0, 0, 0, 0, -1};
        for (int what = 0; what < counts.length; what++) {
            int asked = what;
            Checks.due("1: count(" + what + ")", counts[what], () -> x.count(asked));
        }
        Checks.due("1: fault", -1, x::fault);
        Checks.due("1: undo", false, x::undo);
        Checks.due("1: back", false, x::back);
        Checks.due("1: swaps", 0, x::swaps);
        Checks.due("1: fewest", 0, x::fewest);
        Checks.due("1: sergeant", -1, x::sergeant);
        Checks.due("1: bargain", -1, () -> x.bargain(false));
        Checks.due("1: bargain", 0, () -> x.bargain(true));
        Checks.due("1: campaign", 0, () -> x.campaign(true));
        Checks.due("1: trial", 0, () -> x.trial(30, false));
        Checks.due("1: span", 0, () -> x.span(30, true));
        Checks.due("1: market", 0, () -> x.market(30));
        Checks.due("1: seed", 1, () -> x.seed(7));
        Checks.due("1: who", "throws.IndexOutOfBoundsException", () -> x.who(0));
        Checks.due("1: NONE", -1, () -> ScarArmy.NONE);
    }

    private static void feed() {
        ScarArmy x = new ScarArmy();
        for (int n = 20; n <= 400; n += 20) {
            Checks.due("2: feed to " + n, n, () -> x.feed(1, 2, 3, 4, 5));
        }
        Checks.due("2: feed beyond 400", -1, () -> x.feed(0, 0, 0, 0, 0));
        Checks.due("2: none came", false, () -> x.end(401));
        Checks.due("2: all are there", true, () -> x.end(400));
        x.end(381);
        Checks.due("2: feed to 401", -1, () -> x.feed(0, 0, 0, 0, 0));
        x.end(380);
        Checks.due("2: feed to 400", 400, () -> x.feed(0, 0, 0, 0, 0));
        ScarArmy y = new ScarArmy();
        // "man " "12;m" "an 3" "4;to" "day9"
        y.feed(0x6d616e20, 0x31323b6d, 0x616e2033, 0x343b746f, 0x64617939);
        Checks.due("2: the highest byte first", 1, y::army);
        Checks.due("2: coins", 12, () -> y.man(0, 2));
        Checks.due("2: coins", 34, () -> y.man(1, 2));
        Checks.due("2: today", 9, () -> y.count(5));
    }

    private static void end() {
        ScarArmy x = new ScarArmy();
        Checks.due("3: of an empty one", true, () -> x.end(0));
        Checks.due("3: fewer", false, () -> x.end(1));
        x.feed(0x6d616e20, 0x31323334, 0, 0, 0);
        Checks.due("3: below 0", false, () -> x.end(-1));
        Checks.due("3: fewer", false, () -> x.end(21));
        Checks.due("3: all", true, () -> x.end(20));
        Checks.due("3: first ones", true, () -> x.end(6));
        Checks.due("3: no way back", false, () -> x.end(7));
        x.army();
        Checks.due("3: the first bytes stayed", 12, () -> x.man(0, 2));
        Checks.due("3: the tape was used up", false, () -> x.end(1));
    }

    private static void army() {
        ScarArmy x = new ScarArmy();
        Checks.due("4: blanks alone", 1, () -> Checks.army(x, "   "));
        Checks.due("4: nobody", 0, () -> x.count(1));
        Checks.due("4: a second text", 2, () -> Checks.army(x, BASE));
        for (int n = 3; n <= 12; n++) {
            String text = n < 12 ? "man 1;dead 0" : "dead 0";
            Checks.due("4: text " + n, n, () -> Checks.army(x, text));
            if (n == 11) {
                x.image();
            }
        }
        Checks.due("4: ten men", "throws.IllegalArgumentException", () -> Checks.army(x, "man 1"));
        Checks.due("4: wrong is told first", 0, x::fault);
        Checks.due("4: there are 12", "throws.UnsupportedOperationException", () -> Checks.army(x, "today 5"));
        Checks.due("4: nothing stays", 0, () -> x.count(5));
        Checks.due("4: 12 texts", 12, () -> x.count(3));
        Checks.due("4: used up by that", false, () -> x.end(1));
        Checks.due("4: wrong and used up", "throws.IllegalArgumentException", () -> Checks.army(x, "today 5;m"));
        Checks.due("4: used up by that", false, () -> x.end(1));
        Checks.due("4: nothing stays of a wrong one", 0, () -> x.count(5));
        x.back();
        Checks.due("4: 11 texts again", 12, () -> Checks.army(x, ""));
    }

    private static void armyLines() {
        ScarArmy x = new ScarArmy();
        Checks.army(x, "  battle 9day999with5 0 5 ;man0009;man 9999 ;scar 11 of 5 in 0 depth 9 on 1 by 0;"
                + "scar 2 of 0 in 0 depth 1 on 0;told 0 9;told 1 3;today 999;dead 1  ");
        Checks.due("4: town", 9, () -> x.battle(0, 0));
        Checks.due("4: day", 999, () -> x.battle(0, 1));
        Checks.due("4: weapons", 33, () -> x.battle(0, 2));
        Checks.due("4: coins with zeros ahead", 9, () -> x.man(0, 2));
        Checks.due("4: coins", 9999, () -> x.man(1, 2));
        Checks.due("4: cut on", 1, () -> x.scar(0, 5));
        Checks.due("4: by", 0, () -> x.scar(0, 6));
        Checks.due("4: without by", 0, () -> x.scar(1, 6));
        Checks.due("4: told", 9, () -> x.scar(0, 4));
        Checks.due("4: told", 3, () -> x.scar(1, 4));
        Checks.due("4: today", 999, () -> x.count(5));
        Checks.due("4: dead", 1, () -> x.count(6));
        Checks.army(x, "dead 1;today 0;man 1");
        Checks.due("4: dead once more", 5, () -> x.count(6));
        Checks.due("4: a name of one's own", 2, () -> x.man(2, 1));
        Checks.due("4: today goes back", 0, () -> x.count(5));
    }

    private static void armyFaults() {
        ScarArmy x = new ScarArmy();
        Checks.army(x, BASE);
        Object[][] rows = {
            {"battle", 6}, {"battle ", 7}, {"battle x", 7}, {"battle 10 day", 7}, {"battle 1 dat 1", 9},
            {"battle 1 days 1", 9}, {"battle 1 day", 12}, {"battle 1 day 1000", 13}, {"battle 1 day 1 wit", 15},
            {"battle 1 day 1 with", 19}, {"battle 1 day 1 with 0 6", 22}, {"battle 1 day 1 with 6", 20}, {"battle 1 day 1 with;", 19},
            {"battle 1 day 1 with 0 00001", 22}, {"battle 1 day 1 with 0 man", 22},
            {"man", 3}, {"man 10000", 4}, {"man 00001", 4}, {"man -1", 4}, {"man 1 2", 6}, {"manx 1", 0},
            {"Man 1", 0}, {"man 1a", 5}, {"man 1;;man 1", 6}, {";", 0}, {"man 1,man 1", 5}, {"man 1;", 6},
            {"man 1;   ", 9}, {"   x", 3}, {"5", 0}, {"man\t1", 3},
            {"scar", 4}, {"scar 12 of", 5}, {"scar 0 0", 7}, {"scar 0 of 6", 10}, {"scar 0 of 0 in 1", 15},
            {"scar 0 of 0 in 0 depth 0", 23}, {"scar 0 of 0 in 0 depth 10", 23}, {"scar 0 of 0 in 0 depth 1", 24},
            {"scar 0 of 0 in 0 depth 1 by 0", 25}, {"scar 0 of 0 in 0 depth 1 on 1", 28},
            {"scar 0 of 0 in 0 depth 1 on 0 by", 32}, {"scar 0 of 0 in 0 depth 1 on 0 by 1", 33},
            {"scar 0 of 0 in 0 depth 1 on 0 by 0 by 0", 35},
            {"told", 4}, {"told 1 1", 5}, {"told 0", 6}, {"told 0 10", 7}, {"told 0 1 1", 9},
            {"today", 5}, {"today 1000", 6}, {"dead", 4}, {"dead 1", 5}, {"dead 0 0", 7},
            {"dead 0;dead 0", -1}, {"man 1;dead 1", -1},
        };
        for (Object[] row : rows) {
            x.image();
            Checks.due("4, 6: " + row[0], row[1], () -> Checks.armyFault(x, (String) row[0]));
            x.back();
        }
        Checks.due("4: nothing stays of wrong ones", 1, () -> x.count(1));
        Checks.due("4: nothing stays of wrong ones", 1, () -> x.count(3));
        Checks.due("4: a sign beyond 127", 6, () -> Checks.armyFault(x, "man 1;" + (char) 255));
        Checks.due("4: a scar of this text", -1, () -> Checks.armyFault(x,
                "battle 0 day 0 with 0;man 3;scar 1 of 1 in 1 depth 1 on 1;told 1 5"));
    }

    private static void armyTooMany() {
        ScarArmy x = new ScarArmy();
        String line = "today 1;";
        Checks.due("4: 15 lines", 14 * 8, () -> Checks.armyFault(x, line.repeat(14) + "today 1"));
        Checks.due("4: a 15th that is none", 14 * 8 + 1, () -> Checks.armyFault(x, line.repeat(14) + " x"));
        Checks.due("4: a 15th must come", 14 * 8, () -> Checks.armyFault(x, line.repeat(14)));
        Checks.due("4: 14 lines", -1, () -> Checks.armyFault(x, line.repeat(13) + "today 1"));
        String battle = "battle 1 day 1 with 1;";
        Checks.due("4: a 9th battle", 8 * 22, () -> Checks.armyFault(x, battle.repeat(8) + "battle 77"));
        Checks.due("4: eight battles", -1, () -> Checks.armyFault(x, battle.repeat(8) + "man 1"));
        Checks.due("4: a battle too many", 0, () -> Checks.armyFault(x, "battle"));
        Checks.due("4: an 11th man", 54, () -> Checks.armyFault(x, "man 1;".repeat(9) + "man 1"));
        Checks.due("4: ten men", -1, () -> Checks.armyFault(x, "man 1;".repeat(8) + "man 1"));
        String scar = "scar 1of1in1depth1on1";
        for (int n = 0; n < 2; n++) {
            Checks.due("4: twelve scars", -1, () -> Checks.armyFault(x, (scar + ";").repeat(11) + scar));
        }
        Checks.due("4: a 25th scar", 8, () -> Checks.armyFault(x, "today 3;" + scar));
        Checks.due("4: 24 scars", 24, () -> x.count(2));
        Checks.due("4: today", 1, () -> x.count(5));
    }

    private static void law() {
        ScarArmy x = Checks.with(BASE);
        Checks.due("5: without a text none are counted", -1, () -> x.count(4));
        Checks.due("5: two lines", 2, () -> Checks.law(x, "worth 5;less 2 if own"));
        Checks.due("5: worth", 3, () -> x.scar(0, 7));
        Checks.due("5: in place of the one before", 1, () -> Checks.law(x, " worth 099 "));
        Checks.due("5: worth", 99, () -> x.scar(0, 7));
        Checks.due("5: a wrong one", "throws.IllegalArgumentException", () -> Checks.law(x, "worth 5;less"));
        Checks.due("5: used up", false, () -> x.end(1));
        Checks.due("5: nothing stays", 99, () -> x.scar(0, 7));
        Checks.due("5: nothing stays", 1, () -> x.count(4));
        Checks.due("5: no line", 0, () -> Checks.law(x, "  "));
        Checks.due("5: no line is a law too", 0, () -> x.count(4));
        Checks.due("5: nothing is worth anything by it", 0, () -> x.scar(0, 7));
        Checks.due("5: and none is void", 0, x::voids);
        Checks.due("5: twelve lines", 12, () -> Checks.law(x, "void;".repeat(11) + "void"));
        Checks.due("5: void", 1, x::voids);
    }

    private static void lawFaults() {
        ScarArmy x = Checks.with(BASE);
        Object[][] rows = {
            {"worth", 5}, {"worth 100", 6}, {"worth 0001", 6}, {"worth x", 6}, {"worth 1 5", 8}, {"worths 1", 0},
            {"less", 4}, {"less 5 if", 9}, {"less 5 of", 7}, {"void 5", 5}, {"void;", 5}, {"void;;", 5}, {"tax", 0},
            {"void if ;", 8}, {"void if own own", 12}, {"void if own and", 15}, {"void if own or or", 15},
            {"void if and", 8}, {"void if if", 8}, {"void if (own", 12}, {"void if (own;", 12}, {"void if own)", 11},
            {"void if ()", 9}, {"void if not", 11}, {"void if not )", 12}, {"void if days", 12}, {"void if days+", 13},
            {"void if days + own", 15}, {"void if days and own", 13}, {"void if (days)", 13}, {"void if (days)>1", 13},
            {"void if days>", 13}, {"void if days>1>2", 14}, {"void if 1<1000", 10}, {"void if 1<0001", 10},
            {"void if 1=1", 9}, {"void if own<1", 11}, {"void if 1<own", 10}, {"void if 1<day", 10}, {"void if <1", 8},
            {"void if 1<-1", 10}, {"void if place<1+", 16}, {"void if 1<2+3 or", 16}, {"void if depth 1", 14},
            {"worth 1 if own;void if x", 23}, {"Void", 0}, {"void if 1 < 999", -1},
            {"void if own and fits or ear and(own or not fits)", -1},
            {"void if place+weapon+battle+depth+told+days+bearer+000 > 1", -1},
        };
        for (Object[] row : rows) {
            Checks.due("5, 6: " + row[0], row[1], () -> Checks.lawFault(x, (String) row[0]));
        }
        Checks.due("5: a 13th line", 60, () -> Checks.lawFault(x, "void;".repeat(12) + "void"));
        Checks.due("5: a 13th must come", 60, () -> Checks.lawFault(x, "void;".repeat(12)));
        Checks.due("5: a 13th that is none", 62, () -> Checks.lawFault(x, "void;".repeat(12) + "  7"));
        Checks.due("5: a sign beyond 127", 8, () -> Checks.lawFault(x, "void if " + (char) 200));
    }

    private static void lawNesting() {
        ScarArmy x = Checks.with(BASE);
        Checks.due("5: six not", -1, () -> Checks.lawFault(x, "void if not not not not not not own"));
        Checks.due("5: a 7th not", 32, () -> Checks.lawFault(x, "void if not not not not not not not own"));
        Checks.due("5: six (", -1, () -> Checks.lawFault(x, "void if ((((((own))))))"));
        Checks.due("5: a 7th (", 14, () -> Checks.lawFault(x, "void if (((((((own)))))))"));
        Checks.due("5: three of both", -1, () -> Checks.lawFault(x, "void if not(not(not(own)))"));
        Checks.due("5: a 7th of both", 20, () -> Checks.lawFault(x, "void if not(not(not(not own)))"));
        Checks.due("5: beside one another", -1, () -> Checks.lawFault(x,
                "void if not own and not own and not own and not own or (own) and (own) or (own) and not (own)"));
        Checks.due("5: deep again behind a )", -1, () -> Checks.lawFault(x, "void if (((((own))))) and ((((((own))))))"));
        Checks.due("5: all open at once", -1, () -> Checks.lawFault(x, "void if own or own and "
                + "(own or own and ".repeat(6) + "1+1<1+1" + ")".repeat(6)));
    }

    private static void lawMeaning() {
        ScarArmy x = Checks.with("battle 2 day 10 with 0 1;battle 5 day 30 with 2;man 100;man 50;"
                + "scar 3 of 1 in 0 depth 4 on 0;scar 7 of 3 in 1 depth 9 on 0 by 1;told 0 2;told 1 5;today 25");
        Object[][] rows = {
            {"worth 7", 7, 7}, {"worth 7;less 9", 0, 0}, {"less 9;worth 7;worth 5", 3, 3},
            {"worth 9;void if own", 0, 9}, {"worth 9 if own", 9, 0}, {"worth 9 if not own", 0, 9},
            {"worth 9 if fits", 9, 0}, {"worth 9 if ear", 9, 0},
            {"worth 9 if place > 6", 0, 9}, {"worth 9 if weapon < 2", 9, 0}, {"worth 9 if battle > 0", 0, 9},
            {"worth 9 if depth < 5", 9, 0}, {"worth 9 if told > 4", 0, 9}, {"worth 9 if bearer < 1", 9, 0},
            {"worth 9 if days < 0", 0, 9}, {"worth 9 if days > 14", 9, 0}, {"worth 9 if days > 15", 0, 0},
            {"worth 9 if 0 > days + 4", 0, 9}, {"worth 9 if 0 > days + 5", 0, 0},
            {"worth 9 if place + weapon + depth + 1 < 10", 9, 0}, {"worth 9 if 5 < 5 or 5 > 5", 0, 0},
            {"worth 9 if own or fits and 2 < 1", 9, 0}, {"worth 9 if (own or fits) and 2 < 1", 0, 0},
            {"worth 9 if 2 < 1 and own or not own", 0, 9}, {"worth 9 if not own and own", 0, 0},
            {"worth 9 if not (own and 2 < 1)", 9, 9}, {"worth 9 if not not own", 9, 0},
            {"worth 9 if own and ear or not ear and not fits", 9, 9}, {"less 1;worth 99;void if 1>2", 98, 98},
        };
        for (Object[] row : rows) {
            Checks.law(x, (String) row[0]);
            Checks.due("5: first scar by " + row[0], row[1], () -> x.scar(0, 7));
            Checks.due("5: second scar by " + row[0], row[2], () -> x.scar(1, 7));
        }
        Checks.law(x, "void if own;worth 3");
        Checks.due("5: void", 1, x::voids);
    }

    private static void fault() {
        ScarArmy x = Checks.with(BASE);
        Checks.due("6: none", -1, x::fault);
        Checks.due("6: of a law", 0, () -> Checks.lawFault(x, "x"));
        Checks.tape(x, "x");
        Checks.due("6: not yet read", 0, x::fault);
        Checks.due("6: of enemies none", "throws.IllegalArgumentException", () -> x.enemies(0));
        Checks.due("6: enemies are no text", 0, x::fault);
        Checks.due("6: of the latest one", 2, () -> Checks.armyFault(x, "  x"));
        x.image();
        x.back();
        Checks.due("6: going back leaves it", 2, x::fault);
        x.market(0);
        x.undo();
        Checks.due("6: undoing leaves it", 2, x::fault);
        Checks.due("6: none again", -1, () -> Checks.lawFault(x, ""));
    }
}
