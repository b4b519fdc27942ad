import java.util.Arrays;
import java.util.List;
import java.util.function.Consumer;

/** The boundary cases of the tape, of THE ARMY and of THE LAW, sentence by sentence. */
public final class TextEdgesTest {
    private static final String BASE = "battle 2 day 10 with 0 1;battle 5 day 12 with 2;man 5;man 6;man 7;"
            + "scar 4 of 0 in 0 depth 1 on 0;scar 5 of 1 in 1 depth 2 on 1";

    private static final List<String> UNCHANGED = Whole.of(TextEdgesTest::base);

    private TextEdgesTest() {
    }

    public static void main(String[] args) {
        tapeOf400();
        endOfTheTape();
        numbersOfTheArmy();
        numbersStay();
        thereIsByThen();
        tooManyOfEach();
        linesOfTheArmy();
        textsOfTheArmy();
        wordsAndBlanks();
        noLine();
        moreMustComeInTheArmy();
        cannotStandInTheArmy();
        nothingStays();
        numbersOfTheLaw();
        linesOfTheLaw();
        nesting();
        moreMustComeInTheLaw();
        cannotStandInTheLaw();
        longestLaw();
        lawInPlaceOfTheOneBefore();
        latestText();
        Checks.close();
    }

    private static ScarArmy base() {
        return Checks.with(BASE);
    }

    private static String changedBy(Consumer<ScarArmy> call) {
        return Whole.difference(Whole.behind(TextEdgesTest::base, call), UNCHANGED);
    }

    /** The first wrong byte of a text on a new base; of a wrong one nothing stays, and the tape is used up. */
    private static void army(String text, int wrong) {
        Checks.due("army: " + text, wrong, () -> Checks.armyFault(base(), text));
        if (wrong != ScarArmy.NONE) {
            Checks.due("left of: " + text, "", () -> changedBy(x -> Checks.armyFault(x, text)));
        }
    }

    private static void law(String text, int wrong) {
        Checks.due("law: " + text, wrong, () -> Checks.lawFault(base(), text));
        if (wrong != ScarArmy.NONE) {
            Checks.due("left of: " + text, "", () -> changedBy(x -> Checks.lawFault(x, text)));
        }
    }

    private static void tapeOf400() {
        Checks.sentence("Twenty bytes come behind the TAPE, of each number the highest first: how many it has; "
                + "NONE, and none come, if it would have more than 400.");
        int[][] rows = {{0, 20}, {1, 21}, {360, 380}, {379, 399}, {380, 400}, {381, -1}, {399, -1}, {400, -1}};
        for (int[] row : rows) {
            ScarArmy x = new ScarArmy();
            Checks.tape(x, "z".repeat(row[0]));
            Checks.due("feed behind " + row[0], row[1], () -> x.feed(1, 2, 3, 4, 5));
            int length = row[1] < 0 ? row[0] : row[1];
            Checks.due("not more than " + length, false, () -> x.end(length + 1));
            Checks.due("all of " + length, true, () -> x.end(length));
        }
        ScarArmy full = new ScarArmy();
        Checks.tape(full, " ".repeat(390) + "man 12  ");
        Checks.due("refused", -1, () -> full.feed(0x33333333, 0, 0, 0, 0));
        Checks.due("the bytes are as they were", 1, full::army);
        Checks.due("the bytes are as they were", 12, () -> full.man(0, 2));
        Checks.due("used up, there is room", 20, () -> full.feed(0, 0, 0, 0, 0));
        ScarArmy high = new ScarArmy();
        // 255 and 128 are bytes, too: they stand ahead of what is fed later
        high.feed(0x6d616e20, 0x3120ff80, 0, 0, 0);
        high.end(8);
        Checks.due("bytes beyond 127", Checks.WRONG, high::army);
        Checks.due("the first of them", 6, high::fault);
    }

    private static void endOfTheTape() {
        Checks.sentence("The TAPE has its first n bytes alone: true; false, and nothing happens, if it has fewer, "
                + "or n is below 0.");
        for (int length : new int[] {0, 1, 19, 20, 21, 400}) {
            for (int n : new int[] {Integer.MIN_VALUE, -2, -1, length + 1, length + 2, 401, Integer.MAX_VALUE}) {
                ScarArmy x = new ScarArmy();
                Checks.tape(x, "z".repeat(length));
                Checks.due("end(" + n + ") of " + length, false, () -> x.end(n));
                Checks.due("still " + length, true, () -> x.end(length));
            }
            for (int n : new int[] {0, length / 2, length}) {
                ScarArmy x = new ScarArmy();
                Checks.tape(x, "z".repeat(length));
                Checks.due("end(" + n + ") of " + length, true, () -> x.end(n));
                Checks.due("no more than " + n, false, () -> x.end(n + 1));
            }
        }
        ScarArmy x = new ScarArmy();
        Checks.tape(x, "man 123456");
        x.end(6);
        x.feed(0x3b6d616e, 0x20372020, 0x20202020, 0x20202020, 0x20202020);
        Checks.due("what comes stands behind the first ones", 1, x::army);
        Checks.due("the first bytes", 12, () -> x.man(0, 2));
        Checks.due("what came behind them", 7, () -> x.man(1, 2));
    }

    /** Each number of each line: below, at and above its bounds, and of too many digits. */
    private static void numbers(String line, int low, int high, int digits, boolean army) {
        int at = line.indexOf('#');
        String[] right = {"" + low, "" + high, padded(low, digits), padded(high, digits)};
        for (String number : right) {
            one(line.replace("#", number), ScarArmy.NONE, army);
        }
        one(line.replace("#", "" + (high + 1)), at, army);
        one(line.replace("#", padded(low, digits + 1)), at, army);
        one(line.replace("#", padded(high, digits + 1)), at, army);
        one(line.replace("#", "9".repeat(20)), at, army);
        one(line.replace("#", "4294967296"), at, army);
        one(line.replace("#", "-1"), at, army);
        one(line.replace("#", "x"), at, army);
        if (low > 0) {
            one(line.replace("#", "" + (low - 1)), at, army);
        }
    }

    private static void one(String text, int wrong, boolean army) {
        if (army) {
            army(text, wrong);
        } else {
            law(text, wrong);
        }
    }

    private static String padded(int number, int digits) {
        String text = "" + number;
        return "0".repeat(Math.max(0, digits - text.length())) + text;
    }

    private static void numbersOfTheArmy() {
        Checks.sentence("THE RIVER: TOWNS 0 to 9 in a row");
        numbers("battle # day 1 with 1", 0, 9, 4, true);
        Checks.sentence("a TOWN, a DAY 0 to 999, WEAPONS (0 to 5, as bits)");
        numbers("battle 1 day # with 1", 0, 999, 4, true);
        numbers("battle 1 day 1 with #", 0, 5, 4, true);
        numbers("battle 1 day 1 with 3 #", 0, 5, 4, true);
        numbers("battle 1 day 1 with 3 0 #", 0, 5, 4, true);
        Checks.sentence("COINS 0 to 9999");
        numbers("man #", 0, 9999, 4, true);
        Checks.sentence("a PLACE 0 to 11 (2 and 3 are ears), a WEAPON 0 to 5, a BATTLE, DEPTH 1 to 9, TOLD 0 to 9");
        numbers("scar # of 1 in 1 depth 1 on 1", 0, 11, 4, true);
        numbers("scar 1 of # in 1 depth 1 on 1", 0, 5, 4, true);
        numbers("scar 1 of 1 in # depth 1 on 1", 0, 1, 4, true);
        numbers("scar 1 of 1 in 1 depth # on 1", 1, 9, 4, true);
        numbers("told 1 #", 0, 9, 4, true);
        Checks.sentence("N of today 0 to 999");
        numbers("today #", 0, 999, 4, true);
        Checks.sentence("Numbers are of 1 to 4 digits.");
        numbers("scar 1 of 1 in 1 depth 1 on #", 0, 2, 4, true);
        numbers("scar 1 of 1 in 1 depth 1 on 1 by #", 0, 2, 4, true);
        numbers("told # 1", 0, 1, 4, true);
        numbers("dead #", 0, 2, 4, true);
    }

    private static void numbersStay() {
        Checks.sentence("(battle: the TOWN, the DAY, its WEAPONS; man: COINS; scar: PLACE, WEAPON, BATTLE, DEPTH, "
                + "whom it was CUT on; by: who BEARS it, else whom it was CUT on; N of today 0 to 999.)");
        ScarArmy x = Checks.with("battle 0 day 0 with 0;battle 9 day 999 with 5;battle 3 day 7 with 0 1 2 3 4 5 0 5;"
                + "man 0;man 9999;scar 0 of 0 in 0 depth 1 on 0;scar 11 of 5 in 2 depth 9 on 1 by 0;"
                + "scar 1 of 2 in 1 depth 3 on 0 by 1;told 1 9;told 2 4;told 2 0;today 999");
        int[][] battles = {{0, 0, 1}, {9, 999, 32}, {3, 7, 63}};
        for (int i = 0; i < 9; i++) {
            int battle = i / 3;
            int what = i % 3;
            Checks.due("battle(" + battle + ", " + what + ")", battles[battle][what], () -> x.battle(battle, what));
        }
        int[][] scars = {{0, 0, 0, 1, 0, 0, 0}, {11, 5, 2, 9, 9, 1, 0}, {1, 2, 1, 3, 0, 0, 1}};
        for (int i = 0; i < 21; i++) {
            int scar = i / 7;
            int what = i % 7;
            Checks.due("scar(" + scar + ", " + what + ")", scars[scar][what], () -> x.scar(scar, what));
        }
        Checks.due("no coins", 0, () -> x.man(0, 2));
        Checks.due("most coins", 9999, () -> x.man(1, 2));
        Checks.due("today", 999, () -> x.count(5));
        Checks.army(x, "today 0");
        Checks.due("today", 0, () -> x.count(5));
    }

    private static void thereIsByThen() {
        Checks.sentence("M: a MAN, R: a SCAR that there is by then.");
        ScarArmy x = new ScarArmy();
        Object[][] none = {{"dead 0", 5}, {"dead 0;man 1", 5}, {"told 0 1", 5}, {"scar 0 of 0 in 0 depth 1 on 0", 15},
            {"battle 0 day 0 with 0;scar 0 of 0 in 0 depth 1 on 0", 50},
            {"man 0;scar 0 of 0 in 0 depth 1 on 0;battle 0 day 0 with 0", 21},
            {"battle 0 day 0 with 0;man 0;scar 0 of 0 in 0 depth 1 on 0 by 1;man 0", 61},
            {"battle 0 day 0 with 0;man 0;told 0 1;scar 0 of 0 in 0 depth 1 on 0", 33}};
        for (Object[] row : none) {
            Checks.due("nobody: " + row[0], row[1], () -> Checks.armyFault(x, (String) row[0]));
        }
        Checks.due("nobody came", 0, () -> x.count(0) + x.count(1) + x.count(2) + x.count(3));
        Checks.due("each just ahead", -1, () -> Checks.armyFault(x,
                "battle 0 day 0 with 0;man 0;scar 0 of 0 in 0 depth 1 on 0;told 0 1;man 0;scar 0 of 0 in 0 depth 1 on 1 by 1;"
                + "told 1 1;dead 1"));
        army("man 1;dead 3", -1);
        army("man 1;dead 4", 11);
        army("battle 1 day 1 with 1;scar 1 of 1 in 2 depth 1 on 1", -1);
        army("battle 1 day 1 with 1;scar 1 of 1 in 3 depth 1 on 1", 37);
        army("scar 1 of 1 in 1 depth 1 on 1;told 2 1", -1);
        army("scar 1 of 1 in 1 depth 1 on 1;told 3 1", 35);
    }

    private static void tooManyOfEach() {
        Checks.sentence("BATTLES (at most 8, numbered from 0 on)");
        String battle = "battle 1 day 1 with 1";
        tooMany(battle, 8, 0, 2);
        Checks.sentence("MEN (at most 10, numbered from 0 on)");
        tooMany("man 1", 10, 1, 3);
        Checks.sentence("SCARS (at most 24, numbered from 0 on)");
        tooMany("scar 1 of 1 in 1 depth 1 on 1", 24, 2, 2);
        Checks.sentence("of a LINE, a BATTLE, a MAN, a SCAR too many, the first word");
        ScarArmy x = base();
        fill(x, battle, 6);
        fill(x, "man 1", 7);
        fill(x, "scar 1of1in1depth1on1", 11);
        fill(x, "scar 1of1in1depth1on1", 11);
        String[] lines = {"battle", "battle x", "battle 99 day", "man", "man 99999", "man;", "scar", "scar 12", "scar of"};
        for (String line : lines) {
            Checks.due("too many: " + line, 0, () -> Checks.armyFault(x, line));
            Checks.due("too many, behind another line: " + line, 10, () -> Checks.armyFault(x, "today 3;  " + line));
        }
        Checks.due("no word, as ever", 0, () -> Checks.armyFault(x, "battles 1 day 1 with 1"));
        Checks.due("today stays", 0, () -> x.count(5));
    }

    private static void fill(ScarArmy x, String line, int times) {
        Checks.army(x, (line + ";").repeat(times - 1) + line);
    }

    /** Of a base that has some: the last one that there may be, and one more. */
    private static void tooMany(String line, int most, int what, int has) {
        ScarArmy x = base();
        int left = most - has - 1;
        for (int n = 0; n < left; n += 10) {
            fill(x, line, Math.min(10, left - n));
        }
        Checks.due("one less", most - 1, () -> x.count(what));
        Checks.due("two more in one text", line.length() + 1, () -> Checks.armyFault(x, line + ";" + line));
        Checks.due("still one less", most - 1, () -> x.count(what));
        Checks.due("one more", -1, () -> Checks.armyFault(x, line));
        Checks.due("the most", most, () -> x.count(what));
        Checks.due("too many", 0, () -> Checks.armyFault(x, line));
        Checks.due("too many, behind a line", 8, () -> Checks.armyFault(x, "today 9;" + line));
        Checks.due("still the most", most, () -> x.count(what));
        Checks.due("nothing stays", 0, () -> x.count(5));
    }

    private static void linesOfTheArmy() {
        Checks.sentence("LINE { ; LINE }, at most 14");
        for (int lines = 1; lines <= 14; lines++) {
            army("today 7;".repeat(lines - 1) + "today 8", -1);
        }
        army("today 7;".repeat(14) + "today 8", 14 * 8);
        army("today 7;".repeat(14) + "  today 8", 14 * 8 + 2);
        army("today 7;".repeat(15) + "today 8", 14 * 8);
        army("today 7;".repeat(14) + "x", 14 * 8);
        army("today 7;".repeat(13) + "x", 13 * 8);
        army("today 7;".repeat(14), 14 * 8);
        army("today 7;".repeat(14) + "   ", 14 * 8 + 3);
        army("today 7;".repeat(13) + "today 7  x", 14 * 8 + 1);
    }

    private static void textsOfTheArmy() {
        Checks.sentence("THE ARMY is told in texts (at most 12, one behind another)");
        ScarArmy x = new ScarArmy();
        for (int n = 1; n <= 12; n++) {
            Checks.due("text " + n, n, () -> Checks.army(x, "today 7"));
            Checks.due("texts", n, () -> x.count(3));
        }
        Checks.due("a 13th", Checks.FULL, () -> Checks.army(x, "today 8"));
        Checks.due("a 13th without a line", Checks.FULL, () -> Checks.army(x, ""));
        Checks.due("texts", 12, () -> x.count(3));
        Checks.due("nothing stays", 7, () -> x.count(5));
        Checks.sentence("IllegalArgumentException: it is wrong; UnsupportedOperationException: there are 12.");
        Checks.due("a 13th that is wrong", Checks.WRONG, () -> Checks.army(x, "today 8;"));
        Checks.due("its first wrong byte", 8, x::fault);
        Checks.due("texts", 12, () -> x.count(3));
        Checks.due("nothing stays", 7, () -> x.count(5));
        Checks.due("a law may come", 1, () -> Checks.law(x, "void"));
        ScarArmy y = new ScarArmy();
        for (int n = 1; n <= 11; n++) {
            Checks.army(y, "man 7".substring(n == 1 ? 0 : 5));
        }
        Checks.due("wrong ones do not count", Checks.WRONG, () -> Checks.army(y, "man"));
        Checks.due("the 12th", 12, () -> Checks.army(y, "man 8"));
        Checks.due("acts are left when a 13th is refused", 2, () -> {
            y.days(1);
            y.days(1);
            Checks.answer(() -> Checks.army(y, ""));
            return y.count(9);
        });
    }

    private static void wordsAndBlanks() {
        Checks.sentence("Words are as long as a to z go on; between all there may be blanks (32), also ahead and behind.");
        army("battle9day9with0 1;man9;scar1of1in1depth1on1by1;told1 1;today9;dead1", -1);
        army("  battle  9  day  9  with  0  1  ;  man  9  ;  scar  1  of  1  in  1  depth  1  on  1  by  1  ", -1);
        law("worth9if own and(fits or not ear)or place+1<2+weapon;less9;void if(own)", -1);
        law("  worth  9  if  own  and  (  fits  )  or  place  +  1  <  2  ;  void  ", -1);
        Object[][] rows = {{"mana 1", 0}, {"manz 1", 0}, {"amand 1", 0}, {"zman 1", 0}, {"m an 1", 0}, {"man` 1", 3},
            {"man{ 1", 3}, {"man@ 1", 3}, {"manA 1", 3}, {"manZ 1", 3}, {"Man 1", 0}, {"man 1z", 5}, {"man 1a", 5},
            {"man 1/", 5}, {"man 1:", 5}, {"man /", 4}, {"man :", 4}, {"man 1 1", 6}, {"man 1\t", 5}, {"man\t1", 3},
            {"\nman 1", 0}, {"man 1\n", 5}, {"man 1" + (char) 0, 5}, {"man 1" + (char) 31, 5}, {"man 1!", 5},
            {"man 1" + (char) 160, 5}, {(char) 31 + "man 1", 0}, {"!man 1", 0}, {"man" + (char) 255 + "1", 3},
            {"today7today 7", 6}, {"battle 1 day 1 with 01 2", -1}, {"battle 1 daywith", 9}, {"told 11", 5},
            {"told 1 1", -1}, {"told 1,1", 6}, {"scar 1of1in1depth1on1by", 23}, {"scar 1of1in1depth1on1bye1", 21}};
        for (Object[] row : rows) {
            army((String) row[0], (int) row[1]);
        }
        Object[][] laws = {{"voidif own", 0}, {"void ifown", 5}, {"void if notown", 8}, {"void if own andfits", 12},
            {"void if own orfits", 12}, {"void if{own}", 7}, {"void if own`", 11}, {"void if 1<1:", 11}, {"void if 1</", 10},
            {"void if\town", 7}, {"void if own" + (char) 31, 11}, {"void if 1 1 < 2", 10}, {"void if ear s", 12},
            {"void if ears", 8}, {"void if fit", 8}, {"void if owns", 8}, {"void if depths<1", 8}, {"void if day<1", 8}};
        for (Object[] row : laws) {
            law((String) row[0], (int) row[1]);
        }
    }

    private static void noLine() {
        Checks.sentence("A text that is empty, or blanks alone, has no LINE.");
        for (int blanks : new int[] {0, 1, 20, 399, 400}) {
            army(" ".repeat(blanks), -1);
            law(" ".repeat(blanks), -1);
            ScarArmy x = base();
            Checks.due("it is a text", 2, () -> Checks.army(x, " ".repeat(blanks)));
            Checks.due("nobody came", 2 + 3 + 2, () -> x.count(0) + x.count(1) + x.count(2));
            Checks.due("no lines", 0, () -> Checks.law(x, " ".repeat(blanks)));
            Checks.due("a law that has none", 0, () -> x.count(4));
            Checks.due("no worth by it", 0, () -> x.count(10));
            Checks.due("none is void by it", 0, x::voids);
        }
        army(";", 0);
        army(" ; ", 1);
        law(";", 0);
        law(" ; ", 1);
    }

    /** Things of a line with | where it may end: ends at all others are too early. */
    private static void cuts(String line, boolean army) {
        String[] things = line.split(" ");
        StringBuilder text = new StringBuilder();
        for (String thing : things) {
            boolean mayEnd = thing.endsWith("|");
            text.append(text.length() == 0 ? "" : " ").append(mayEnd ? thing.substring(0, thing.length() - 1) : thing);
            String cut = text.toString();
            one(cut, mayEnd ? -1 : cut.length(), army);
            one(cut + "   ", mayEnd ? -1 : cut.length() + 3, army);
            one(cut + ";", mayEnd ? cut.length() + 1 : cut.length(), army);
            one(cut + " ; ", mayEnd ? cut.length() + 3 : cut.length() + 1, army);
        }
    }

    private static void moreMustComeInTheArmy() {
        Checks.sentence("or the text's length, if more must come");
        cuts("battle 1 day 1 with 1| 2| 3|", true);
        cuts("man 1|", true);
        cuts("scar 1 of 1 in 1 depth 1 on 1| by 1|", true);
        cuts("told 1 1|", true);
        cuts("today 1|", true);
        cuts("dead 1|", true);
        army("man 1;man", 9);
        army("man " + " ".repeat(396), 400);
    }

    private static void cannotStandInTheArmy() {
        Checks.sentence("The first wrong byte: the begin of the first thing that cannot stand there (a number of more "
                + "digits, or out of its bounds, or that tells none that can be; a word that is none;");
        String[] line = {"battle", "1", "day", "1", "with", "1"};
        wrongThings(line, new String[] {"x", "1", "man", "day", "with", ";", "12345", "<", "(", "by"});
        wrongThings(new String[] {"scar", "1", "of", "1", "in", "1", "depth", "1", "on", "1", "by", "1"},
                new String[] {"x", "1", "scar", "of", "in", "depth", "on", "by", ";", "12345", "+", ")"});
        wrongThings(new String[] {"told", "1", "1"}, new String[] {"x", "told", ";", "12345", "today"});
        wrongThings(new String[] {"today", "1"}, new String[] {"x", "today", ";", "12345", "day"});
        wrongThings(new String[] {"dead", "1"}, new String[] {"x", "dead", ";", "12345", "die"});
        wrongThings(new String[] {"man", "1"}, new String[] {"x", "man", ";", "12345", "men"});
        army("man 1 man 1", 6);
        army("man 1;worth 1", 6);
        army("told 2 99", 5);
        army("told 1 99 x", 7);
        army("scar 12 of 6 in 9 depth 0 on 9", 5);
    }

    /** Another thing in place of each one, but for those that may stand there. */
    private static void wrongThings(String[] line, String[] things) {
        for (int i = 0; i < line.length; i++) {
            String ahead = String.join(" ", Arrays.copyOf(line, i)) + (i > 0 ? " " : "");
            for (String thing : things) {
                boolean first = i == 0 && List.of("battle", "man", "scar", "told", "today", "dead").contains(thing);
                boolean same = thing.equals(line[i]) || thing.length() == 1 && Character.isDigit(line[i].charAt(0))
                        && Character.isDigit(thing.charAt(0));
                boolean mayEnd = i > 0 && thing.equals(";") && line[0].equals("scar") && i == 10;
                if (!first && !same && !mayEnd) {
                    army(ahead + thing, ahead.length());
                }
            }
        }
    }

    private static void nothingStays() {
        Checks.sentence("Of a wrong text nothing stays.");
        army("battle 1 day 1 with 1;man 9;scar 1 of 1 in 2 depth 1 on 3;told 0 9;today 99;dead 0;x", 83);
        army("told 0 9;told 1 9;dead 2;today 500;man 1;man", 44);
        law("worth 5;less 1;void if ear;x", 27);
        ScarArmy x = base();
        Checks.law(x, "worth 5");
        x.days(1);
        Checks.due("a wrong law", 8, () -> Checks.lawFault(x, "worth 9;"));
        Checks.due("the one before is in force", 5, () -> x.scar(0, 7));
        Checks.due("its lines", 1, () -> x.count(4));
        Checks.due("the act is still remembered", 1, () -> x.count(9));
    }

    private static void numbersOfTheLaw() {
        Checks.sentence("All numbers are of 1 to 3 digits (N 0 to 99).");
        numbers("worth #", 0, 99, 3, false);
        numbers("less #", 0, 99, 3, false);
        numbers("void;worth # if own", 0, 99, 3, false);
        String[] sums = {"void if 1 < #", "void if 1 > #", "void if 1 < 1 + #", "void if 1 < # + 1", "void if (1 < #)"};
        for (String sum : sums) {
            numbers(sum, 0, 999, 3, false);
        }
        law("void if 0 < 1", -1);
        law("void if 999 < 1", -1);
        law("void if 0999 < 1", 8);
        law("void if 1000 < 1", 8);
        law("void if 999 + 0 > 999 + 999", -1);
        ScarArmy x = base();
        String[] sum = {"worth 1 if 999 > 998", "worth 1 if 998 < 999", "worth 1 if 999 < 998 + 2", "worth 1 if 999 + 999 > 998 + 999",
            "worth 1 if 0 < 1", "worth 1 if 000 < 001", "worth 1 if 999 > 000", "worth 1 if not 999 < 999 and not 0 > 0"};
        for (String one : sum) {
            ScarArmy y = base();
            Checks.law(y, one);
            Checks.due(one, 1, () -> y.scar(0, 7));
        }
        String[] laws = {"worth 0", "worth 99", "worth 099", "worth 99;less 98", "worth 98;less 99", "worth 5;less 0"};
        int[] worth = {0, 99, 99, 1, 0, 5};
        for (int i = 0; i < laws.length; i++) {
            Checks.law(x, laws[i]);
            Checks.due(laws[i], worth[i], () -> x.scar(0, 7));
        }
    }

    private static void linesOfTheLaw() {
        Checks.sentence("THE LAW (a text, in place of the one before): LINE { ; LINE }, at most 12");
        for (int lines = 1; lines <= 12; lines++) {
            int due = lines;
            ScarArmy x = base();
            Checks.due(lines + " lines", due, () -> Checks.law(x, "worth 3;".repeat(due - 1) + "worth 3"));
            Checks.due(lines + " lines", due, () -> x.count(4));
            Checks.due(lines + " lines", 3 * due, () -> x.scar(0, 7));
        }
        law("worth 3;".repeat(12) + "worth 3", 12 * 8);
        law("worth 3;".repeat(12) + "  void", 12 * 8 + 2);
        law("worth 3;".repeat(13) + "worth 3", 12 * 8);
        law("worth 3;".repeat(12), 12 * 8);
        law("worth 3;".repeat(12) + "  ", 12 * 8 + 2);
        law("worth 3;".repeat(12) + "9", 12 * 8);
        law("worth 3;".repeat(11) + "x", 11 * 8);
        law("worth 3;".repeat(11) + "void if own and x", 11 * 8 + 16);
    }

    private static void nesting() {
        Checks.sentence("( and not within one another at most 6 deep.");
        for (int deep = 0; deep <= 6; deep++) {
            law("void if " + "(".repeat(deep) + "own" + ")".repeat(deep), -1);
            law("void if " + "not ".repeat(deep) + "own", -1);
            law("void if " + "not ".repeat(deep) + "(".repeat(6 - deep) + "own" + ")".repeat(6 - deep), -1);
            law("void if " + "(".repeat(deep) + "not ".repeat(6 - deep) + "own" + ")".repeat(deep), -1);
        }
        Checks.sentence("the ( or not that is a 7th one deep");
        law("void if (((((((own)))))))", 14);
        law("void if ((((((not own))))))", 14);
        law("void if not not not not not not not own", 32);
        law("void if not not not not not not (own)", 32);
        law("void if not(not(not(not(own))))", 20);
        law("void if ((((((own and (own)))))))", 22);
        law("void if ((((((1 < 1 or not own))))))", 23);
        law("void if own and fits or ((((((own or not own))))))", 37);
        law("void if (((((((", 14);
        law("void if not not not not not not not", 32);
        law("void if (own) and (((((own))))) or not (own and not (fits)) and not own and ((((((ear))))))", -1);
        law("void if ((((((own)))))) and ((((((own))))));void if not not not not not not fits", -1);
    }

    private static void moreMustComeInTheLaw() {
        Checks.sentence("or the text's length, if more must come");
        cuts("worth 1| if own| and fits| or ear|", false);
        cuts("less 1| if not own| or not not fits|", false);
        cuts("void| if ( own ) | and ( fits or ear )|".replace(") |", ")|"), false);
        cuts("void| if place < 1| + weapon| and battle + depth > told| + 1| + days|", false);
        cuts("void| if not ( bearer > 1 )| or 1 + 1 < 2|", false);
        law("void if not (" + " ".repeat(387), 400);
    }

    private static void cannotStandInTheLaw() {
        Checks.sentence("The first wrong byte: the begin of the first thing that cannot stand there");
        String[] anAtom = {")", "and", "or", "if", "<", ">", "+", ";", "x", "1000", "0001", "worth", "man", "void"};
        String[] ahead = {"void if ", "void if not ", "void if (", "void if own and ", "void if own or ", "void if (own) or "};
        for (String a : ahead) {
            for (String thing : anAtom) {
                law(a + thing, a.length());
            }
        }
        String[] aSign = {")", "and", "or", "if", ";", "x", "1", "own", "(", "not", "depth", "=", "-"};
        String[] sums = {"void if 1 ", "void if depth ", "void if depth + 1 ", "void if not days + told "};
        for (String sum : sums) {
            for (String thing : aSign) {
                law(sum + thing, sum.length());
            }
        }
        String[] aPart = {")", "and", "or", "if", ";", "x", "own", "fits", "ear", "(", "not", "<", ">", "+", "1000", "-1"};
        String[] parts = {"void if 1 < ", "void if 1 + ", "void if depth > 1 + ", "void if (told > "};
        for (String part : parts) {
            for (String thing : aPart) {
                law(part + thing, part.length());
            }
        }
        String[] behind = {")", "if", "<", ">", "x", "1", "own", "(", "not", "depth", "worth", "+"};
        for (String thing : behind) {
            law("void if own " + thing, 12);
            law("void if (own) " + thing, 14);
            law("worth 1 if fits and not ear " + thing, 28);
        }
        law("void if 1 < 2 < 3", 14);
        law("void if 1 < 2 own", 14);
        law("void own", 5);
        law("void 1", 5);
        law("worth if", 6);
        law("worth own", 6);
        law("less ;", 5);
        law("worth 1 2", 8);
        law("told 1 1", 0);
        law("if own", 0);
    }

    /** The most that a text of 400 bytes can hold; were the end of it cut, the false would be true. */
    private static void longestLaw() {
        Checks.sentence("SUM: PART { + PART }");
        String ahead = "void if 1>2;".repeat(11) + "worth 7 if ";
        int ones = (400 - ahead.length() - 3) / 2;
        StringBuilder sum = new StringBuilder("1");
        for (int i = 0; i < ones; i++) {
            sum.append("+1");
        }
        ScarArmy x = base();
        Checks.due("twelve lines", 12, () -> Checks.law(x, ahead + sum + ">99"));
        Checks.due("long and true", 7, () -> x.scar(0, 7));
        Checks.due("twelve lines", 12, () -> Checks.law(x, ahead + sum + "<99"));
        Checks.due("long and false", 0, () -> x.scar(0, 7));
        String alone = "void if 1" + "+1".repeat(194) + "#99";
        Checks.due("400 bytes", 400, alone::length);
        Checks.law(x, alone.replace('#', '>'));
        Checks.due("the longest, true", 3, x::voids);
        Checks.law(x, alone.replace('#', '<'));
        Checks.due("the longest, false", 0, x::voids);
        String voids = "less 0;".repeat(11) + "worth 7 if ";
        StringBuilder ands = new StringBuilder("own");
        while (voids.length() + ands.length() + 12 <= 400) {
            ands.append(" and own");
        }
        Checks.law(x, voids + ands);
        Checks.due("many and", 7, () -> x.scar(0, 7));
        Checks.law(x, voids + ands.substring(0, ands.length() - 3) + "ear");
        Checks.due("many and, the last one false", 0, () -> x.scar(0, 7));
        StringBuilder ors = new StringBuilder("ear");
        while (voids.length() + ors.length() + 10 <= 400) {
            ors.append(" or ear");
        }
        Checks.law(x, voids + ors);
        Checks.due("many or", 0, () -> x.scar(0, 7));
        Checks.law(x, voids + ors.substring(0, ors.length() - 3) + "own");
        Checks.due("many or, the last one true", 7, () -> x.scar(0, 7));
        Checks.law(x, "worth 7 if ear or own and ".concat("(ear or own and ".repeat(6)) + "3>1+1" + ")".repeat(6));
        Checks.due("all open at once, true", 7, () -> x.scar(0, 7));
        Checks.law(x, "worth 7 if ear or own and ".concat("(ear or own and ".repeat(6)) + "2>1+1" + ")".repeat(6));
        Checks.due("all open at once, false", 0, () -> x.scar(0, 7));
    }

    private static void lawInPlaceOfTheOneBefore() {
        Checks.sentence("Without a text: DEPTH and TOLD together, none VOID.");
        ScarArmy x = base();
        Checks.army(x, "told 1 9");
        Checks.due("depth 1, told 0", 1, () -> x.scar(0, 7));
        Checks.due("depth 2, told 9", 11, () -> x.scar(1, 7));
        Checks.due("none void", 0, x::voids);
        Checks.due("no law", -1, () -> x.count(4));
        Checks.sentence("THE LAW (a text, in place of the one before)");
        Checks.law(x, "worth 50;void if place < 5");
        Checks.due("void", 1, x::voids);
        Checks.due("void is worth nothing", 0, () -> x.scar(0, 7));
        Checks.due("worth", 50, () -> x.scar(1, 7));
        Checks.law(x, "worth 3");
        Checks.due("none void any more", 0, x::voids);
        Checks.due("worth", 6, () -> x.count(10));
        Checks.law(x, "");
        Checks.due("no line, no worth", 0, () -> x.count(10));
        Checks.due("a law all the same", 0, () -> x.count(4));
        x.image();
        ScarArmy y = base();
        y.image();
        Checks.law(y, "void");
        y.back();
        Checks.due("back to where there was none", -1, () -> y.count(4));
        Checks.due("back to depth and told", 3, () -> y.count(10));
    }

    private static void latestText() {
        Checks.sentence("The first wrong byte of the latest text that was read; NONE without one, and ahead of any.");
        ScarArmy x = new ScarArmy();
        Checks.due("ahead of any", -1, x::fault);
        Checks.tape(x, "x");
        Checks.due("ahead of any that was read", -1, x::fault);
        Checks.due("wrong", Checks.WRONG, x::army);
        Checks.due("the first byte", 0, x::fault);
        Checks.due("still", 0, x::fault);
        Checks.due("a right army", -1, () -> Checks.armyFault(x, "man 1"));
        Checks.due("a wrong law", 5, () -> Checks.lawFault(x, "worth"));
        Checks.due("a right law", -1, () -> Checks.lawFault(x, "worth 1"));
        Checks.due("a wrong army", 4, () -> Checks.armyFault(x, "dead 2".substring(0, 4)));
        Checks.due("no line", -1, () -> Checks.lawFault(x, ""));
        Checks.due("the last byte of 400", 399, () -> Checks.armyFault(x, " ".repeat(399) + "x"));
        Checks.due("behind the last byte of 400", 400, () -> Checks.armyFault(x, " ".repeat(397) + "man"));
        x.days(1);
        x.undo();
        Checks.due("undoing leaves it", 400, x::fault);
        x.image();
        Checks.army(x, "");
        x.back();
        Checks.due("going back leaves it", -1, x::fault);
    }
}
