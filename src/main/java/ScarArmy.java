import java.util.Arrays;
import java.util.NoSuchElementException;

/** An army in which scars change hands. The document's promises are the comments of the face. */
public final class ScarArmy {
    public static final int NONE = -1;

    private static final int TOO_MANY = -3;
    private static final int MAX_TAPE = 400;
    private static final int MAX_TEXTS = 12;
    private static final int MAX_ARMY_LINES = 14;
    private static final int MAX_LAW_LINES = 12;
    private static final int MAX_NESTED = 6;
    private static final int MAX_BATTLES = 8;
    private static final int MAX_MEN = 10;
    private static final int MAX_SCARS = 24;
    private static final int MAX_COINS = 9999;
    private static final int MAX_TODAY = 9999;
    private static final int MAX_DAYS = 400;
    private static final int MAX_SALES = 30;
    private static final int MAX_TURN = 30;
    private static final int MAX_LOOKS = 999;
    private static final int MAX_CHOICE = 12;
    private static final int MAX_ENEMIES = 10;
    private static final int MAX_LOG = 60;
    private static final int MAX_ACTS = 12;
    private static final int TOWNS = 10;
    private static final int DAYS_OF_BATTLES = 1000;
    private static final int PLACES = 12;
    private static final int WEAPONS = 6;
    private static final int TRADES = 3;
    private static final int MAX_DEPTH = 9;
    private static final int MAX_TOLD = 9;
    private static final int LEFT_EAR = 2;
    private static final int RIGHT_EAR = 3;
    private static final int BOTH_EARS = 3;
    private static final int PAIR_OF_EARS = 10;
    private static final int PENSION_DAYS = 30;
    private static final int SEEDS = 6;

    private final Tape tape = new Tape();
    private final ArmyText armyText = new ArmyText(tape);
    private final LawText lawText = new LawText(tape);
    private final Army now = new Army();
    private final Army kept = new Army();
    private final Army draft = new Army();
    private final Memory memory = new Memory();
    private final Search search = new Search();
    private boolean imageKept = false;
    private int wrongByte = NONE;

    /** Promise 1. */
    public ScarArmy() {
    }

    /** Promise 2. */
    public int feed(int a, int b, int c, int d, int e) {
        if (tape.length + 20 > MAX_TAPE) {
            return NONE;
        }
        tape.put(a);
        tape.put(b);
        tape.put(c);
        tape.put(d);
        tape.put(e);
        return tape.length;
    }

    /** Promise 3. */
    public boolean end(int n) {
        if (n < 0 || n > tape.length) {
            return false;
        }
        tape.length = n;
        return true;
    }

    /** Promise 4. */
    public int army() throws IllegalArgumentException, UnsupportedOperationException {
        draft.copyFrom(now);
        wrongByte = armyText.read(draft);
        tape.length = 0;
        if (wrongByte != NONE) {
            throw new IllegalArgumentException("the text is wrong");
        }
        if (now.texts >= MAX_TEXTS) {
            throw new UnsupportedOperationException("no more texts");
        }
        draft.texts++;
        now.copyFrom(draft);
        memory.forget();
        return now.texts;
    }

    /** Promise 5. */
    public int law() throws IllegalArgumentException {
        wrongByte = lawText.read();
        tape.length = 0;
        if (wrongByte != NONE) {
            throw new IllegalArgumentException("the text is wrong");
        }
        now.law = lawText.compiled();
        memory.forget();
        return now.law.lines;
    }

    /** Promise 6. */
    public int fault() {
        return wrongByte;
    }

    /** Promise 7. */
    public int battle(int battle, int what) throws IndexOutOfBoundsException, NoSuchElementException {
        needBattle(battle);
        switch (what) {
            case 0: return now.battles.town[battle];
            case 1: return now.battles.day[battle];
            case 2: return now.battles.arms[battle];
            case 3: return now.scars.menCut(battle);
            case 4: return now.scars.menBearing(battle);
            case 5: return now.wereThere(battle);
            case 6: return now.scars.skinsFor(battle);
            default: throw new NoSuchElementException("nothing of a battle");
        }
    }

    /** Promise 8. */
    public int man(int man, int what) throws IndexOutOfBoundsException, NoSuchElementException {
        needMan(man);
        switch (what) {
            case 0: return now.men.isAlive(man) ? 1 : 0;
            case 1: return now.men.name[man];
            case 2: return now.men.coins[man];
            case 3: return now.scars.borneBy(man);
            case 4: return now.looksOf(man);
            case 5: return now.pensionOf(man);
            case 6: return now.men.cycleOf(man);
            case 7: return now.heldBy(man);
            default: throw new NoSuchElementException("nothing of a man");
        }
    }

    /** Promise 9. */
    public int scar(int scar, int what) throws IndexOutOfBoundsException, NoSuchElementException {
        needScar(scar);
        switch (what) {
            case 0: return now.scars.place[scar];
            case 1: return now.scars.weapon[scar];
            case 2: return now.scars.battle[scar];
            case 3: return now.scars.depth[scar];
            case 4: return now.scars.told[scar];
            case 5: return now.scars.cutOn[scar];
            case 6: return now.scars.bearer[scar];
            case 7: return now.worthOf(scar);
            case 8: return now.priceOf(scar);
            case 9: return now.scars.trades[scar];
            case 10: return now.scars.threadOf(scar);
            default: throw new NoSuchElementException("nothing of a scar");
        }
    }

    /** Promise 10. */
    public int who(int name) throws IndexOutOfBoundsException {
        needMan(name);
        return now.men.goingBy(name);
    }

    /** Promise 11. */
    public int hand(int scar, int to, int pay)
            throws IndexOutOfBoundsException, IllegalArgumentException, IllegalStateException {
        needScar(scar);
        needMan(to);
        int from = now.scars.bearer[scar];
        if (pay < 0 || pay > MAX_COINS || from == to) {
            throw new IllegalArgumentException("no such pay, or both are one");
        }
        if (!now.men.isAlive(from) || !now.men.isAlive(to) || now.men.coins[to] < pay) {
            throw new IllegalStateException("one is dead, or has not so much");
        }
        memory.remember(now);
        now.handOver(scar, to, pay);
        return now.men.name[from];
    }

    /** Promise 12. */
    public int polish(int scar, int trade) throws IndexOutOfBoundsException, IllegalStateException {
        needScar(scar);
        needTrade(trade);
        if ((now.scars.trades[scar] >> trade & 1) != 0) {
            throw new IllegalStateException("by that trade it was");
        }
        memory.remember(now);
        return now.scars.tellBetter(scar, trade);
    }

    /** Promise 13. */
    public int die(int name) throws IndexOutOfBoundsException, IllegalStateException {
        needMan(name);
        int man = now.men.goingBy(name);
        if (!now.men.isAlive(man)) {
            throw new IllegalStateException("dead already");
        }
        memory.remember(now);
        now.men.bury(man);
        return man;
    }

    /** Promise 14. */
    public int widow(int man, int to)
            throws IndexOutOfBoundsException, IllegalArgumentException, IllegalStateException {
        needMan(man);
        needMan(to);
        if (man == to) {
            throw new IllegalArgumentException("both are one");
        }
        if (now.men.isAlive(man) || !now.men.isAlive(to)) {
            throw new IllegalStateException("the first one lives, or the other one is dead");
        }
        memory.remember(now);
        return now.inherit(man, to);
    }

    /** Promise 15. */
    public int wound(int place, int weapon, int battle, int depth, int man)
            throws IndexOutOfBoundsException, IllegalArgumentException, IllegalStateException,
            UnsupportedOperationException {
        if (place < 0 || place >= PLACES || weapon < 0 || weapon >= WEAPONS) {
            throw new IndexOutOfBoundsException("no such place or weapon");
        }
        needBattle(battle);
        needMan(man);
        if (depth < 1 || depth > MAX_DEPTH) {
            throw new IllegalArgumentException("no such depth");
        }
        if (!now.men.isAlive(man)) {
            throw new IllegalStateException("dead");
        }
        if (now.scars.size >= MAX_SCARS) {
            throw new UnsupportedOperationException("no more scars");
        }
        memory.remember(now);
        return now.scars.add(place, weapon, battle, depth, man);
    }

    /** Promise 16. */
    public int days(int n) throws IllegalArgumentException {
        if (n < 1 || n > MAX_DAYS) {
            throw new IllegalArgumentException("no such days");
        }
        memory.remember(now);
        return now.passDays(n);
    }

    /** Promise 17. */
    public int market(int n) throws IllegalArgumentException {
        needSales(n);
        memory.remember(now);
        return now.runSales(n, false);
    }

    /** Promise 18. */
    public int swaps() {
        return now.men.swapsBack();
    }

    /** Promise 19. */
    public boolean his(int scars) {
        return search.areAllHis(now, scars & now.scars.all());
    }

    /** Promise 20. */
    public int largest(int man, boolean which) throws IndexOutOfBoundsException {
        needMan(man);
        int borne = now.scars.borneBy(man);
        if (Integer.bitCount(borne) > MAX_CHOICE) {
            return TOO_MANY;
        }
        int best = search.mostHis(now, borne);
        return which ? best : Integer.bitCount(best);
    }

    /** Promise 21. */
    public int betrays(int man) throws IndexOutOfBoundsException {
        needMan(man);
        int borne = now.scars.borneBy(man);
        if (Integer.bitCount(borne) > MAX_CHOICE) {
            return TOO_MANY;
        }
        return search.giveaways(now, borne);
    }

    /** Promise 22. */
    public int fewest() {
        return search.fewestMen(now);
    }

    /** Promise 23. */
    public int least(int man, int n, boolean which)
            throws IndexOutOfBoundsException, IllegalArgumentException, IllegalStateException {
        needMan(man);
        if (n < 0 || n > MAX_LOOKS) {
            throw new IllegalArgumentException("no such looks");
        }
        if (!now.men.isAlive(man)) {
            throw new IllegalStateException("dead");
        }
        return search.cheapest(now, man, n, which);
    }

    /** Promise 24. */
    public int gains(int man, int scar) throws IndexOutOfBoundsException {
        needMan(man);
        needScar(scar);
        return now.gainOf(man, scar);
    }

    /** Promise 25. */
    public int buyer(int scar) throws IndexOutOfBoundsException {
        needScar(scar);
        return now.bestBuyer(scar);
    }

    /** Promise 26. */
    public int enemies(int enemy) throws IllegalArgumentException {
        int count = search.hear(now, tape);
        tape.length = 0;
        if (count == NONE || enemy < NONE || enemy >= count) {
            throw new IllegalArgumentException("no such enemies");
        }
        return enemy == NONE ? search.mostRight(count) : search.meant[enemy];
    }

    /** Promise 27. */
    public int sergeant() {
        return now.holderOfMost();
    }

    /** Promise 28. */
    public int turn(int men, int n, int day, int man)
            throws IndexOutOfBoundsException, IllegalArgumentException {
        if (man != NONE) {
            needMan(man);
        }
        if (n < 1 || n > MAX_TURN || day < 0 || day > MAX_TODAY) {
            throw new IllegalArgumentException("no such turn or day");
        }
        int set = men & now.men.all();
        return man == NONE ? now.men.inTurn(set, n, day) : now.men.turnsHad(set, n, day, man);
    }

    /** Promise 29. */
    public int polished(int trade) throws IndexOutOfBoundsException {
        needTrade(trade);
        return now.scars.toldBy(trade);
    }

    /** Promise 30. */
    public int bargain(boolean much) {
        return now.bestBargain(much);
    }

    /** Promise 31. */
    public int hands(int scar, int k) throws IndexOutOfBoundsException, IllegalArgumentException {
        needScar(scar);
        if (k < 0) {
            throw new IllegalArgumentException("no such change");
        }
        return k == 0 ? now.scars.bearer[scar] : now.log.giver(scar, k);
    }

    /** Promise 32. */
    public int mourned() {
        return now.men.namesOfDead();
    }

    /** Promise 33. */
    public int after(int man, int n) throws IndexOutOfBoundsException, IllegalArgumentException {
        needMan(man);
        if (n < 0 || n > MAX_DAYS) {
            throw new IllegalArgumentException("no such days");
        }
        draft.copyFrom(now);
        draft.passDays(n);
        return draft.men.coins[man];
    }

    /** Promise 34. */
    public int shared(int man, int other) throws IndexOutOfBoundsException, IllegalArgumentException {
        needMan(man);
        needMan(other);
        if (man == other) {
            throw new IllegalArgumentException("both are one");
        }
        return now.scars.battlesCutOn(man) & now.scars.battlesCutOn(other);
    }

    /** Promise 35. */
    public boolean route(int battles) {
        return now.battles.areRoute(battles & now.battles.all());
    }

    /** Promise 36. */
    public int campaign(boolean which) {
        int best = now.battles.longestRoute();
        return which ? best : Integer.bitCount(best);
    }

    /** Promise 37. */
    public int voids() {
        return now.voidScars();
    }

    /** Promise 38. */
    public int lies() {
        return now.falseScars();
    }

    /** Promise 39. */
    public int crosswise() {
        return now.men.underDeadNames();
    }

    /** Promise 40. */
    public int trial(int n, boolean coins) throws IllegalArgumentException {
        needSales(n);
        draft.copyFrom(now);
        return draft.runSales(n, coins);
    }

    /** Promise 41. */
    public int span(int n, boolean most) throws IllegalArgumentException {
        needSales(n);
        int low = n;
        int high = 0;
        for (int from = 1; from <= SEEDS; from++) {
            draft.copyFrom(now);
            draft.seed = from;
            int sold = draft.runSales(n, false);
            low = Math.min(low, sold);
            high = Math.max(high, sold);
        }
        return most ? high : low;
    }

    /** Promise 42. */
    public int led(int scar, boolean often) throws IndexOutOfBoundsException {
        needScar(scar);
        return often ? now.log.timesOf(scar) : now.battles.town[now.scars.battle[scar]];
    }

    /** Promise 43. */
    public int log(int ago, int what) throws NoSuchElementException {
        if (what < 0 || what >= Log.ROW) {
            throw new NoSuchElementException("nothing of the log");
        }
        return now.log.cell(ago, what);
    }

    /** Promise 44. */
    public int seed(int n) {
        int was = now.seed;
        now.seed = n;
        return was;
    }

    /** Promise 45. */
    public boolean undo() {
        return memory.recall(now);
    }

    /** Promise 46. */
    public void image() {
        kept.copyFrom(now);
        imageKept = true;
    }

    /** Promise 47. */
    public boolean back() {
        if (!imageKept) {
            return false;
        }
        now.copyFrom(kept);
        memory.forget();
        return true;
    }

    /** Promise 48. */
    public int count(int what) {
        switch (what) {
            case 0: return now.battles.size;
            case 1: return now.men.size;
            case 2: return now.scars.size;
            case 3: return now.texts;
            case 4: return now.law == null ? NONE : now.law.lines;
            case 5: return now.today;
            case 6: return now.men.alive;
            case 7: return now.men.coinsOfAll();
            case 8: return now.log.size;
            case 9: return memory.size;
            case 10: return now.worthOfAll();
            default: return NONE;
        }
    }

    private void needBattle(int battle) {
        if (battle < 0 || battle >= now.battles.size) {
            throw new IndexOutOfBoundsException("no such battle");
        }
    }

    private void needMan(int man) {
        if (man < 0 || man >= now.men.size) {
            throw new IndexOutOfBoundsException("no such man");
        }
    }

    private void needScar(int scar) {
        if (scar < 0 || scar >= now.scars.size) {
            throw new IndexOutOfBoundsException("no such scar");
        }
    }

    private void needTrade(int trade) {
        if (trade < 0 || trade >= TRADES) {
            throw new IndexOutOfBoundsException("no such trade");
        }
    }

    private void needSales(int n) {
        if (n < 0 || n > MAX_SALES) {
            throw new IllegalArgumentException("no such number of sales");
        }
    }

    /** The bytes that were fed, and the things (words, numbers, signs) that are read from them. */
    private static final class Tape {
        int length = 0;
        /** Where the thing begins at which it stands, and whether that is a number. */
        int begin = 0;
        boolean isNumber = false;
        /** The number that was taken last. */
        int value = 0;
        private int behind = 0;
        private final byte[] bytes = new byte[MAX_TAPE];

        void put(int number) {
            for (int shift = 24; shift >= 0 && length < MAX_TAPE; shift -= 8) {
                bytes[length] = (byte) (number >> shift);
                length++;
            }
        }

        int byteAt(int at) {
            return at >= 0 && at < length ? bytes[at] & 255 : NONE;
        }

        void open() {
            behind = 0;
            advance();
        }

        /** Words and numbers go on as long as they can; all else is a thing of one byte. */
        void advance() {
            int at = behind;
            while (at < length && bytes[at] == ' ') {
                at++;
            }
            begin = at;
            boolean word = at < length && bytes[at] >= 'a' && bytes[at] <= 'z';
            isNumber = at < length && bytes[at] >= '0' && bytes[at] <= '9';
            int low = word ? 'a' : '0';
            int high = word ? 'z' : '9';
            at = Math.min(length, at + 1);
            while ((word || isNumber) && at < length && bytes[at] >= low && bytes[at] <= high) {
                at++;
            }
            behind = at;
        }

        boolean atEnd() {
            return begin >= length;
        }

        /** A sign is compared like a word: a thing of one byte that is no letter. */
        boolean is(String thing) {
            int size = thing.length();
            if (behind - begin != size) {
                return false;
            }
            for (int i = 0; i < size && begin + i < length; i++) {
                if (bytes[begin + i] != thing.charAt(i)) {
                    return false;
                }
            }
            return true;
        }

        boolean take(String thing) {
            boolean right = is(thing);
            if (right) {
                advance();
            }
            return right;
        }

        /** Stays at the number if it is wrong, as its begin is the wrong byte then. */
        boolean takeNumber(int digits, int least, int most) {
            if (!isNumber || behind - begin > digits) {
                return false;
            }
            int number = 0;
            for (int at = begin; at < behind && at < length; at++) {
                number = number * 10 + bytes[at] - '0';
            }
            if (number < least || number > most) {
                return false;
            }
            value = number;
            advance();
            return true;
        }
    }

    /** Reads texts of THE ARMY. Each method leaves the tape at the thing that was wrong. */
    private static final class ArmyText {
        private static final int DIGITS = 4;

        private final Tape tape;

        ArmyText(Tape tape) {
            this.tape = tape;
        }

        /** The first wrong byte, or NONE. */
        int read(Army army) {
            tape.open();
            if (tape.atEnd()) {
                return NONE;
            }
            for (int line = 0; line < MAX_ARMY_LINES; line++) {
                if (!readLine(army)) {
                    return tape.begin;
                }
                if (tape.atEnd()) {
                    return NONE;
                }
                if (!tape.take(";")) {
                    return tape.begin;
                }
            }
            return tape.begin;
        }

        private boolean readLine(Army army) {
            if (tape.is("battle")) {
                return readBattle(army.battles);
            }
            if (tape.is("man")) {
                return readMan(army.men);
            }
            if (tape.is("scar")) {
                return readScar(army);
            }
            if (tape.take("told")) {
                return readTold(army.scars);
            }
            if (tape.take("today")) {
                boolean right = takeNumber(0, DAYS_OF_BATTLES - 1);
                army.today = right ? tape.value : army.today;
                return right;
            }
            if (tape.take("dead")) {
                boolean right = takeNumber(0, army.men.size - 1);
                if (right) {
                    army.men.bury(tape.value);
                }
                return right;
            }
            return false;
        }

        private boolean readBattle(Battles battles) {
            if (battles.size >= MAX_BATTLES) {
                return false;
            }
            tape.advance();
            if (!takeNumber(0, TOWNS - 1)) {
                return false;
            }
            int town = tape.value;
            if (!tape.take("day") || !takeNumber(0, DAYS_OF_BATTLES - 1)) {
                return false;
            }
            int day = tape.value;
            if (!tape.take("with") || !takeNumber(0, WEAPONS - 1)) {
                return false;
            }
            int arms = 1 << tape.value;
            for (int more = 0; more < MAX_TAPE && tape.isNumber; more++) {
                if (!takeNumber(0, WEAPONS - 1)) {
                    return false;
                }
                arms |= 1 << tape.value;
            }
            battles.add(town, day, arms);
            return true;
        }

        private boolean readMan(Men men) {
            if (men.size >= MAX_MEN) {
                return false;
            }
            tape.advance();
            if (!takeNumber(0, MAX_COINS)) {
                return false;
            }
            men.add(tape.value);
            return true;
        }

        private boolean readScar(Army army) {
            if (army.scars.size >= MAX_SCARS) {
                return false;
            }
            tape.advance();
            if (!takeNumber(0, PLACES - 1)) {
                return false;
            }
            int place = tape.value;
            if (!tape.take("of") || !takeNumber(0, WEAPONS - 1)) {
                return false;
            }
            int weapon = tape.value;
            if (!tape.take("in") || !takeNumber(0, army.battles.size - 1)) {
                return false;
            }
            int battle = tape.value;
            if (!tape.take("depth") || !takeNumber(1, MAX_DEPTH)) {
                return false;
            }
            int depth = tape.value;
            if (!tape.take("on") || !takeNumber(0, army.men.size - 1)) {
                return false;
            }
            int scar = army.scars.add(place, weapon, battle, depth, tape.value);
            if (tape.take("by")) {
                if (!takeNumber(0, army.men.size - 1)) {
                    return false;
                }
                army.scars.bearer[scar] = tape.value;
            }
            return true;
        }

        private boolean readTold(Scars scars) {
            if (!takeNumber(0, scars.size - 1)) {
                return false;
            }
            int scar = tape.value;
            if (!takeNumber(0, MAX_TOLD)) {
                return false;
            }
            scars.told[scar] = tape.value;
            return true;
        }

        private boolean takeNumber(int least, int most) {
            return tape.takeNumber(DIGITS, least, most);
        }
    }

    /** Reads a text of THE LAW and writes it as code for Law. */
    private static final class LawText {
        private static final int DIGITS = 3;
        private static final int MAX_N = 99;
        private static final int MAX_NUMBER = 999;

        private final Tape tape;
        /** A thing of the text makes at most one number, but for the three ahead of each line. */
        private final int[] code = new int[MAX_TAPE + MAX_LAW_LINES * Law.HEAD];
        private int size = 0;
        private int lines = 0;

        LawText(Tape tape) {
            this.tape = tape;
        }

        /** The first wrong byte, or NONE. */
        int read() {
            size = 0;
            lines = 0;
            tape.open();
            if (tape.atEnd()) {
                return NONE;
            }
            for (int line = 0; line < MAX_LAW_LINES; line++) {
                if (!readLine()) {
                    return tape.begin;
                }
                lines++;
                if (tape.atEnd()) {
                    return NONE;
                }
                if (!tape.take(";")) {
                    return tape.begin;
                }
            }
            return tape.begin;
        }

        Law compiled() {
            return new Law(Arrays.copyOf(code, size), lines);
        }

        private boolean readLine() {
            int kind = tape.is("worth") ? Law.WORTH : tape.is("less") ? Law.LESS_WORTH : Law.VOID;
            if (kind == Law.VOID && !tape.is("void")) {
                return false;
            }
            tape.advance();
            int n = 0;
            if (kind != Law.VOID) {
                if (!tape.takeNumber(DIGITS, 0, MAX_N)) {
                    return false;
                }
                n = tape.value;
            }
            emit(kind);
            emit(n);
            int lengthAt = size;
            emit(0);
            if (tape.take("if") && !readCondition(0)) {
                return false;
            }
            if (lengthAt < code.length) {
                code[lengthAt] = size - lengthAt - 1;
            }
            return true;
        }

        /** An and joins at once, an or only when the atoms behind it that belong together are read. */
        private boolean readCondition(int deep) {
            boolean and = false;
            boolean or = false;
            for (int atoms = 0; atoms < MAX_TAPE; atoms++) {
                if (!readAtom(deep)) {
                    return false;
                }
                if (and) {
                    emit(Law.AND);
                }
                and = tape.take("and");
                if (!and) {
                    if (or) {
                        emit(Law.OR);
                    }
                    or = tape.take("or");
                    if (!or) {
                        return true;
                    }
                }
            }
            return false;
        }

        private boolean readAtom(int deep) {
            boolean not = tape.is("not");
            if (not || tape.is("(")) {
                if (deep >= MAX_NESTED) {
                    return false;
                }
                tape.advance();
                return not ? readNegated(deep + 1) : readCondition(deep + 1) && tape.take(")");
            }
            int truth = namedTruth();
            if (truth != NONE) {
                tape.advance();
                emit(Law.FACT + truth);
                return true;
            }
            if (!readSum()) {
                return false;
            }
            boolean below = tape.is("<");
            if (!below && !tape.is(">")) {
                return false;
            }
            tape.advance();
            if (!readSum()) {
                return false;
            }
            emit(below ? Law.BELOW : Law.ABOVE);
            return true;
        }

        private boolean readNegated(int deep) {
            if (!readAtom(deep)) {
                return false;
            }
            emit(Law.NOT);
            return true;
        }

        private boolean readSum() {
            for (int parts = 0; parts < MAX_TAPE; parts++) {
                if (tape.takeNumber(DIGITS, 0, MAX_NUMBER)) {
                    emit(tape.value);
                } else {
                    int part = namedPart();
                    if (part == NONE) {
                        return false;
                    }
                    tape.advance();
                    emit(Law.FACT + part);
                }
                if (parts > 0) {
                    emit(Law.PLUS);
                }
                if (!tape.take("+")) {
                    return true;
                }
            }
            return false;
        }

        private int namedTruth() {
            if (tape.is("own")) {
                return Law.OWN;
            }
            if (tape.is("fits")) {
                return Law.FITS;
            }
            return tape.is("ear") ? Law.EAR : NONE;
        }

        private int namedPart() {
            if (tape.is("place")) {
                return Law.PLACE;
            }
            if (tape.is("weapon")) {
                return Law.WEAPON;
            }
            if (tape.is("battle")) {
                return Law.BATTLE;
            }
            if (tape.is("depth")) {
                return Law.DEPTH;
            }
            if (tape.is("told")) {
                return Law.TOLD;
            }
            if (tape.is("days")) {
                return Law.DAYS;
            }
            return tape.is("bearer") ? Law.BEARER : NONE;
        }

        private void emit(int number) {
            if (size < code.length) {
                code[size] = number;
                size++;
            }
        }
    }

    /**
     * A law that was read: of each line its kind, its N and how long its condition is, then the
     * condition as code for a stack. It never changes, so armies share it.
     */
    private static final class Law {
        static final int HEAD = 3;
        static final int WORTH = 0;
        static final int LESS_WORTH = 1;
        static final int VOID = 2;

        static final int PLACE = 0;
        static final int WEAPON = 1;
        static final int BATTLE = 2;
        static final int DEPTH = 3;
        static final int TOLD = 4;
        static final int DAYS = 5;
        static final int BEARER = 6;
        static final int OWN = 7;
        static final int FITS = 8;
        static final int EAR = 9;
        static final int FACTS = 10;

        /** Below FACT a code is a number itself. */
        static final int FACT = 1000;
        static final int NOT = 2000;
        static final int PLUS = 2001;
        static final int BELOW = 2002;
        static final int ABOVE = 2003;
        static final int AND = 2004;
        static final int OR = 2005;

        /** Seven levels leave two values open each, and a comparison three more. */
        private static final int MAX_STACK = 24;

        final int lines;
        private final int[] code;
        private final int[] stack = new int[MAX_STACK];

        Law(int[] code, int lines) {
            this.code = code;
            this.lines = lines;
        }

        /** The worth of a scar of which these are the facts; NONE if it is void. */
        int judge(int[] facts) {
            int worth = 0;
            int at = 0;
            for (int line = 0; line < lines && at + HEAD <= code.length; line++) {
                int kind = code[at];
                int n = code[at + 1];
                int from = at + HEAD;
                at = from + code[at + 2];
                if (from == at || holds(from, at, facts)) {
                    if (kind == VOID) {
                        return NONE;
                    }
                    worth += kind == WORTH ? n : -n;
                }
            }
            return Math.max(0, worth);
        }

        private boolean holds(int from, int to, int[] facts) {
            int top = 0;
            for (int at = from; at < to && at < code.length; at++) {
                int sign = code[at];
                if (sign < NOT && top < MAX_STACK) {
                    stack[top] = sign < FACT ? sign : facts[(sign - FACT) % FACTS];
                    top++;
                } else if (sign == NOT && top > 0) {
                    stack[top - 1] = 1 - stack[top - 1];
                } else if (top > 1) {
                    top--;
                    int left = stack[top - 1];
                    int right = stack[top];
                    switch (sign) {
                        case PLUS: stack[top - 1] = left + right; break;
                        case BELOW: stack[top - 1] = left < right ? 1 : 0; break;
                        case ABOVE: stack[top - 1] = left > right ? 1 : 0; break;
                        case AND: stack[top - 1] = left & right; break;
                        default: stack[top - 1] = left | right; break;
                    }
                }
            }
            return top > 0 && stack[0] != 0;
        }
    }

    private static final class Battles {
        int size = 0;
        final int[] town = new int[MAX_BATTLES];
        final int[] day = new int[MAX_BATTLES];
        final int[] arms = new int[MAX_BATTLES];

        void copyFrom(Battles other) {
            size = other.size;
            System.arraycopy(other.town, 0, town, 0, size);
            System.arraycopy(other.day, 0, day, 0, size);
            System.arraycopy(other.arms, 0, arms, 0, size);
        }

        void add(int inTown, int onDay, int weapons) {
            if (size < MAX_BATTLES) {
                town[size] = inTown;
                day[size] = onDay;
                arms[size] = weapons;
                size++;
            }
        }

        int all() {
            return (1 << size) - 1;
        }

        /** One battle is zero days from itself, so it needs no case of its own. */
        boolean canBeBoth(int one, int other) {
            return Math.abs(town[one] - town[other]) <= Math.abs(day[one] - day[other]);
        }

        boolean areRoute(int set) {
            for (int one = 0; one < size; one++) {
                for (int other = 0; other < one; other++) {
                    boolean both = (set >> one & 1) != 0 && (set >> other & 1) != 0;
                    if (both && !canBeBoth(one, other)) {
                        return false;
                    }
                }
            }
            return true;
        }

        /** Sets rise, so of several with as many the least is met first. */
        int longestRoute() {
            int best = 0;
            for (int set = 1; set <= all(); set++) {
                if (Integer.bitCount(set) > Integer.bitCount(best) && areRoute(set)) {
                    best = set;
                }
            }
            return best;
        }
    }

    private static final class Men {
        int size = 0;
        int alive = 0;
        final int[] name = new int[MAX_MEN];
        final int[] coins = new int[MAX_MEN];

        void copyFrom(Men other) {
            size = other.size;
            alive = other.alive;
            System.arraycopy(other.name, 0, name, 0, size);
            System.arraycopy(other.coins, 0, coins, 0, size);
        }

        void add(int money) {
            if (size < MAX_MEN) {
                name[size] = size;
                coins[size] = money;
                alive |= 1 << size;
                size++;
            }
        }

        int all() {
            return (1 << size) - 1;
        }

        boolean isAlive(int man) {
            return (alive >> man & 1) != 0;
        }

        void bury(int man) {
            alive &= ~(1 << man);
        }

        /** What does not fit in a purse is lost: how much was got. */
        int earn(int man, int sum) {
            int got = Math.min(sum, MAX_COINS - coins[man]);
            coins[man] += got;
            return got;
        }

        int coinsOfAll() {
            int sum = 0;
            for (int man = 0; man < size; man++) {
                sum += coins[man];
            }
            return sum;
        }

        void changeNames(int one, int other) {
            int first = name[one];
            name[one] = name[other];
            name[other] = first;
        }

        int goingBy(int called) {
            for (int man = 0; man < size; man++) {
                if (name[man] == called) {
                    return man;
                }
            }
            return called;
        }

        int cycleOf(int man) {
            int met = 0;
            int at = man;
            for (int step = 0; step < size; step++) {
                met |= 1 << at;
                at = name[at];
            }
            return met;
        }

        /** A cycle needs one swap less than it has men. */
        int swapsBack() {
            int met = 0;
            int fewer = size;
            for (int man = 0; man < size; man++) {
                if ((met >> man & 1) == 0) {
                    met |= cycleOf(man);
                    fewer--;
                }
            }
            return fewer;
        }

        int namesOfDead() {
            int names = 0;
            for (int man = 0; man < size; man++) {
                if (!isAlive(man)) {
                    names |= 1 << name[man];
                }
            }
            return names;
        }

        int underDeadNames() {
            int crossed = 0;
            for (int man = 0; man < size; man++) {
                if (isAlive(man) && !isAlive(name[man])) {
                    crossed |= 1 << man;
                }
            }
            return crossed;
        }

        int inTurn(int set, int n, int day) {
            int members = Integer.bitCount(set);
            if (members < 1 || n < 1) {
                return NONE;
            }
            int ahead = day / n % members;
            for (int man = 0; man < size; man++) {
                if ((set >> man & 1) != 0) {
                    if (ahead == 0) {
                        return man;
                    }
                    ahead--;
                }
            }
            return NONE;
        }

        int turnsHad(int set, int n, int day, int man) {
            int round = n * Integer.bitCount(set);
            if ((set >> man & 1) == 0 || round < 1) {
                return 0;
            }
            int start = n * Integer.bitCount(set & ((1 << man) - 1));
            int inLast = Math.max(0, Math.min(n, day % round - start));
            return day / round * n + inLast;
        }
    }

    private static final class Scars {
        int size = 0;
        final int[] place = new int[MAX_SCARS];
        final int[] weapon = new int[MAX_SCARS];
        final int[] battle = new int[MAX_SCARS];
        final int[] depth = new int[MAX_SCARS];
        final int[] told = new int[MAX_SCARS];
        final int[] cutOn = new int[MAX_SCARS];
        final int[] bearer = new int[MAX_SCARS];
        final int[] trades = new int[MAX_SCARS];

        void copyFrom(Scars other) {
            size = other.size;
            System.arraycopy(other.place, 0, place, 0, size);
            System.arraycopy(other.weapon, 0, weapon, 0, size);
            System.arraycopy(other.battle, 0, battle, 0, size);
            System.arraycopy(other.depth, 0, depth, 0, size);
            System.arraycopy(other.told, 0, told, 0, size);
            System.arraycopy(other.cutOn, 0, cutOn, 0, size);
            System.arraycopy(other.bearer, 0, bearer, 0, size);
            System.arraycopy(other.trades, 0, trades, 0, size);
        }

        /** Callers look first whether there is room for one more. */
        int add(int at, int by, int in, int deep, int man) {
            int scar = Math.min(size, MAX_SCARS - 1);
            place[scar] = at;
            weapon[scar] = by;
            battle[scar] = in;
            depth[scar] = deep;
            told[scar] = 0;
            cutOn[scar] = man;
            bearer[scar] = man;
            trades[scar] = 0;
            size = scar + 1;
            return scar;
        }

        int all() {
            return (1 << size) - 1;
        }

        int tellBetter(int scar, int trade) {
            trades[scar] |= 1 << trade;
            told[scar] = Math.min(MAX_TOLD, told[scar] + 1);
            return told[scar];
        }

        int toldBy(int trade) {
            int set = 0;
            for (int scar = 0; scar < size; scar++) {
                set |= (trades[scar] >> trade & 1) << scar;
            }
            return set;
        }

        int borneBy(int man) {
            int set = 0;
            for (int scar = 0; scar < size; scar++) {
                if (bearer[scar] == man) {
                    set |= 1 << scar;
                }
            }
            return set;
        }

        /** Of all scars that have such a number in one row: those of another row, as bits. */
        private int bitsWhere(int[] row, int such, int[] other) {
            int set = 0;
            for (int scar = 0; scar < size; scar++) {
                if (row[scar] == such) {
                    set |= 1 << other[scar];
                }
            }
            return set;
        }

        int battlesCutOn(int man) {
            return bitsWhere(cutOn, man, battle);
        }

        int battlesBorneBy(int man) {
            return bitsWhere(bearer, man, battle);
        }

        int battlesNotBorneBy(int man) {
            int set = 0;
            for (int scar = 0; scar < size; scar++) {
                if (bearer[scar] != man) {
                    set |= 1 << battle[scar];
                }
            }
            return set;
        }

        int menCut(int in) {
            return bitsWhere(battle, in, cutOn);
        }

        int menBearing(int in) {
            return bitsWhere(battle, in, bearer);
        }

        int menStruck(int at, int by) {
            int men = 0;
            for (int scar = 0; scar < size; scar++) {
                if (place[scar] == at && weapon[scar] == by) {
                    men |= 1 << bearer[scar];
                }
            }
            return men;
        }

        /** Only scars at one place need skins of their own. */
        int skinsFor(int in) {
            int most = 0;
            for (int at = 0; at < PLACES; at++) {
                int here = 0;
                for (int scar = 0; scar < size; scar++) {
                    if (battle[scar] == in && place[scar] == at) {
                        here++;
                    }
                }
                most = Math.max(most, here);
            }
            return most;
        }

        int threadOf(int one) {
            int set = 0;
            for (int scar = 0; scar < size; scar++) {
                if (scar != one && weapon[scar] == weapon[one] && battle[scar] == battle[one]
                        && depth[scar] == depth[one]) {
                    set |= 1 << scar;
                }
            }
            return set;
        }

        /** Bit 0 the one ear, bit 1 the other one. */
        int earsOf(int man) {
            int ears = 0;
            for (int scar = 0; scar < size; scar++) {
                if (bearer[scar] == man) {
                    ears |= earBit(scar);
                }
            }
            return ears;
        }

        int earBit(int scar) {
            return place[scar] == LEFT_EAR ? 1 : place[scar] == RIGHT_EAR ? 2 : 0;
        }
    }

    /** A ring of the latest rows. */
    private static final class Log {
        static final int ROW = 5;
        private static final int SCAR = 1;
        private static final int FROM = 2;

        int size = 0;
        private int next = 0;
        private final int[] cells = new int[MAX_LOG * ROW];

        void copyFrom(Log other) {
            size = other.size;
            next = other.next;
            System.arraycopy(other.cells, 0, cells, 0, size * ROW);
        }

        void add(int today, int scar, int from, int to, int pay) {
            int at = next * ROW;
            cells[at] = today;
            cells[at + SCAR] = scar;
            cells[at + FROM] = from;
            cells[at + 3] = to;
            cells[at + 4] = pay;
            next = (next + 1) % MAX_LOG;
            size = Math.min(MAX_LOG, size + 1);
        }

        int cell(int ago, int what) {
            if (ago < 0 || ago >= size) {
                return NONE;
            }
            return cells[(next + MAX_LOG - 1 - ago) % MAX_LOG * ROW + what];
        }

        int timesOf(int scar) {
            int times = 0;
            for (int row = 0; row < size; row++) {
                if (cells[row * ROW + SCAR] == scar) {
                    times++;
                }
            }
            return times;
        }

        /** From whom the scar went the k-th time ago (1 the latest). */
        int giver(int scar, int k) {
            int times = 0;
            for (int ago = 0; ago < size; ago++) {
                if (cell(ago, SCAR) == scar) {
                    times++;
                    if (times == k) {
                        return cell(ago, FROM);
                    }
                }
            }
            return NONE;
        }
    }

    /** All that acts change, and all that an image keeps. */
    private static final class Army {
        final Battles battles = new Battles();
        final Men men = new Men();
        final Scars scars = new Scars();
        final Log log = new Log();
        /** Null without a text of THE LAW. */
        Law law = null;
        int today = 0;
        int seed = 1;
        int texts = 0;
        private final int[] facts = new int[Law.FACTS];

        void copyFrom(Army other) {
            battles.copyFrom(other.battles);
            men.copyFrom(other.men);
            scars.copyFrom(other.scars);
            log.copyFrom(other.log);
            law = other.law;
            today = other.today;
            seed = other.seed;
            texts = other.texts;
        }

        /** The worth of a scar as if that man bore it; NONE if it is void then. */
        int judgedOn(int scar, int man) {
            if (law == null) {
                return scars.depth[scar] + scars.told[scar];
            }
            int battle = scars.battle[scar];
            int weapon = scars.weapon[scar];
            facts[Law.PLACE] = scars.place[scar];
            facts[Law.WEAPON] = weapon;
            facts[Law.BATTLE] = battle;
            facts[Law.DEPTH] = scars.depth[scar];
            facts[Law.TOLD] = scars.told[scar];
            facts[Law.DAYS] = today - battles.day[battle];
            facts[Law.BEARER] = man;
            facts[Law.OWN] = scars.cutOn[scar] == man ? 1 : 0;
            facts[Law.FITS] = battles.arms[battle] >> weapon & 1;
            facts[Law.EAR] = scars.earBit(scar) != 0 ? 1 : 0;
            return law.judge(facts);
        }

        int worthOf(int scar) {
            return Math.max(0, judgedOn(scar, scars.bearer[scar]));
        }

        boolean isVoid(int scar) {
            return judgedOn(scar, scars.bearer[scar]) == NONE;
        }

        int worthOfAll() {
            int sum = 0;
            for (int scar = 0; scar < scars.size; scar++) {
                sum += worthOf(scar);
            }
            return sum;
        }

        int worthBorneBy(int man) {
            int sum = 0;
            for (int scar = 0; scar < scars.size; scar++) {
                if (scars.bearer[scar] == man) {
                    sum += worthOf(scar);
                }
            }
            return sum;
        }

        int looksOf(int man) {
            int pair = scars.earsOf(man) == BOTH_EARS ? PAIR_OF_EARS : 0;
            return worthBorneBy(man) + pair;
        }

        int pensionOf(int name) {
            int sum = 0;
            for (int scar = 0; scar < scars.size; scar++) {
                if (scars.cutOn[scar] == name) {
                    sum += worthOf(scar);
                }
            }
            return sum;
        }

        int priceOf(int scar) {
            if (!men.isAlive(scars.bearer[scar])) {
                return 0;
            }
            int full = worthOf(scar) * 3 + scars.depth[scar];
            return Math.max(0, full - 2 * log.timesOf(scar));
        }

        /** No other scar's worth changes by it, so only this one and the ears count. */
        int gainOf(int man, int scar) {
            if (scars.bearer[scar] == man) {
                return 0;
            }
            int ears = scars.earsOf(man);
            boolean paired = ears != BOTH_EARS && (ears | scars.earBit(scar)) == BOTH_EARS;
            return Math.max(0, judgedOn(scar, man)) + (paired ? PAIR_OF_EARS : 0);
        }

        int bestBuyer(int scar) {
            int best = NONE;
            int most = NONE;
            for (int man = 0; man < men.size; man++) {
                if (men.isAlive(man) && scars.bearer[scar] != man) {
                    int gain = gainOf(man, scar);
                    if (gain > most) {
                        best = man;
                        most = gain;
                    }
                }
            }
            return best;
        }

        int bestBargain(boolean much) {
            int best = NONE;
            int most = 0;
            for (int scar = 0; scar < scars.size; scar++) {
                int to = men.isAlive(scars.bearer[scar]) ? bestBuyer(scar) : NONE;
                if (to != NONE) {
                    int profit = gainOf(to, scar) * 3 - priceOf(scar);
                    if (best == NONE || profit > most) {
                        best = scar;
                        most = profit;
                    }
                }
            }
            return much ? most : best;
        }

        void handOver(int scar, int to, int pay) {
            int from = scars.bearer[scar];
            men.coins[to] -= pay;
            men.earn(from, pay);
            men.changeNames(from, to);
            scars.bearer[scar] = to;
            log.add(today, scar, from, to, pay);
        }

        int inherit(int man, int to) {
            int gone = 0;
            for (int scar = 0; scar < scars.size; scar++) {
                if (scars.bearer[scar] == man) {
                    scars.bearer[scar] = to;
                    gone++;
                }
            }
            men.earn(to, men.coins[man]);
            men.coins[man] = 0;
            return gone;
        }

        int passDays(int n) {
            int got = 0;
            int last = Math.min(MAX_TODAY, today + n);
            for (int day = today + 1; day <= last; day++) {
                today = day;
                if (day % PENSION_DAYS == 0) {
                    got += payPensions();
                }
            }
            return got;
        }

        private int payPensions() {
            int got = 0;
            for (int man = 0; man < men.size; man++) {
                if (men.isAlive(man)) {
                    got += men.earn(man, pensionOf(men.name[man]));
                }
            }
            return got;
        }

        private int draw() {
            seed = 1103515245 * seed + 12345;
            return seed >> 16 & 0x7fff;
        }

        /** How many sales came about, or the coins that were paid. */
        int runSales(int n, boolean coins) {
            int sold = 0;
            int paid = 0;
            for (int sale = 0; sale < n && scars.size > 0; sale++) {
                int scar = draw() % scars.size;
                int to = men.isAlive(scars.bearer[scar]) ? bestBuyer(scar) : NONE;
                if (to != NONE) {
                    int price = priceOf(scar);
                    if (men.coins[to] >= price) {
                        handOver(scar, to, price);
                        sold++;
                        paid += price;
                    }
                }
            }
            return coins ? paid : sold;
        }

        int wereThere(int battle) {
            int there = 0;
            for (int scar = 0; scar < scars.size; scar++) {
                int man = scars.bearer[scar];
                boolean own = scars.battle[scar] == battle && scars.cutOn[scar] == man;
                if (own && men.isAlive(man) && !isVoid(scar)) {
                    there |= 1 << man;
                }
            }
            return there;
        }

        int heldBy(int man) {
            return scars.battlesBorneBy(man) & ~scars.battlesNotBorneBy(man);
        }

        int holderOfMost() {
            int best = NONE;
            int most = 0;
            for (int man = 0; man < men.size; man++) {
                int held = Integer.bitCount(heldBy(man));
                if (held > most) {
                    best = man;
                    most = held;
                }
            }
            return best;
        }

        int voidScars() {
            int set = 0;
            for (int scar = 0; scar < scars.size; scar++) {
                if (isVoid(scar)) {
                    set |= 1 << scar;
                }
            }
            return set;
        }

        int falseScars() {
            int set = 0;
            for (int scar = 0; scar < scars.size; scar++) {
                int battle = scars.battle[scar];
                boolean fits = (battles.arms[battle] >> scars.weapon[scar] & 1) != 0;
                if (!fits || battles.day[battle] > today) {
                    set |= 1 << scar;
                }
            }
            return set;
        }
    }

    /** What was ahead of the latest acts, in a ring of armies that are used again. */
    private static final class Memory {
        int size = 0;
        private int next = 0;
        private final Army[] ahead = new Army[MAX_ACTS];

        Memory() {
            for (int i = 0; i < MAX_ACTS; i++) {
                ahead[i] = new Army();
            }
        }

        void remember(Army army) {
            ahead[next].copyFrom(army);
            next = (next + 1) % MAX_ACTS;
            size = Math.min(MAX_ACTS, size + 1);
        }

        boolean recall(Army army) {
            if (size == 0) {
                return false;
            }
            next = (next + MAX_ACTS - 1) % MAX_ACTS;
            size--;
            army.copyFrom(ahead[next]);
            return true;
        }

        void forget() {
            size = 0;
        }
    }

    /** The answers that try many sets, with the rows that they need. */
    private static final class Search {
        /** Of each enemy that was heard: the men alive whom that one could mean. */
        final int[] meant = new int[MAX_ENEMIES];
        private final int[] enemyOf = new int[MAX_MEN];
        private int asked = 0;
        private final int[] fought = new int[MAX_MEN];
        private final int[] member = new int[MAX_SCARS];
        /** Of each member those that it cannot stand beside; a void one not even itself. */
        private final int[] clash = new int[MAX_SCARS];
        private final int[] worth = new int[MAX_SCARS];
        private final int[] price = new int[MAX_SCARS];
        private int bestPay = NONE;
        private int bestSet = NONE;

        boolean areAllHis(Army army, int set) {
            int size = listClashes(army, set);
            return isFree((1 << size) - 1, size);
        }

        /** Sets rise, so of several with as many the least is met first. */
        int mostHis(Army army, int set) {
            int size = listClashes(army, set);
            int best = 0;
            int most = 0;
            for (int some = 1; some < 1 << size; some++) {
                if (Integer.bitCount(some) > most && isFree(some, size)) {
                    best = some;
                    most = Integer.bitCount(some);
                }
            }
            return scarsOf(best, size);
        }

        int giveaways(Army army, int set) {
            int size = listClashes(army, set);
            int full = (1 << size) - 1;
            if (isFree(full, size)) {
                return 0;
            }
            int traitors = 0;
            for (int i = 0; i < size; i++) {
                if (isFree(full & ~(1 << i), size)) {
                    traitors |= 1 << i;
                }
            }
            return scarsOf(traitors, size);
        }

        private int listMembers(int set) {
            int size = 0;
            for (int scar = 0; scar < MAX_SCARS; scar++) {
                if ((set >> scar & 1) != 0) {
                    member[size] = scar;
                    size++;
                }
            }
            return size;
        }

        private int scarsOf(int some, int size) {
            int set = 0;
            for (int i = 0; i < size; i++) {
                set |= (some >> i & 1) << member[i];
            }
            return set;
        }

        private int listClashes(Army army, int set) {
            int size = listMembers(set);
            for (int i = 0; i < size; i++) {
                clash[i] = army.isVoid(member[i]) ? 1 << i : 0;
                for (int j = 0; j < i; j++) {
                    if (!canBeOneMans(army, member[i], member[j])) {
                        clash[i] |= 1 << j;
                    }
                }
            }
            return size;
        }

        private boolean canBeOneMans(Army army, int one, int other) {
            Scars scars = army.scars;
            return scars.place[one] != scars.place[other]
                    && army.battles.canBeBoth(scars.battle[one], scars.battle[other]);
        }

        private boolean isFree(int some, int size) {
            for (int i = 0; i < size; i++) {
                if ((some >> i & 1) != 0 && (clash[i] & some) != 0) {
                    return false;
                }
            }
            return true;
        }

        /** Sets rise, so of several with as few the least is met first. */
        int fewestMen(Army army) {
            int size = army.men.size;
            int needed = 0;
            for (int man = 0; man < size; man++) {
                fought[man] = army.scars.battlesBorneBy(man);
                needed |= fought[man];
            }
            if (needed == 0) {
                return 0;
            }
            int best = army.men.all();
            for (int some = 1; some < army.men.all(); some++) {
                if (Integer.bitCount(some) < Integer.bitCount(best)
                        && battlesOf(some, size) == needed) {
                    best = some;
                }
            }
            return best;
        }

        private int battlesOf(int some, int size) {
            int borne = 0;
            for (int man = 0; man < size; man++) {
                if ((some >> man & 1) != 0) {
                    borne |= fought[man];
                }
            }
            return borne;
        }

        int cheapest(Army army, int man, int looks, boolean which) {
            int offered = 0;
            for (int scar = 0; scar < army.scars.size; scar++) {
                int bearer = army.scars.bearer[scar];
                if (bearer != man && army.men.isAlive(bearer)) {
                    offered |= 1 << scar;
                }
            }
            int size = listMembers(offered);
            if (size > MAX_CHOICE) {
                return TOO_MANY;
            }
            for (int i = 0; i < size; i++) {
                worth[i] = Math.max(0, army.judgedOn(member[i], man));
                price[i] = army.priceOf(member[i]);
            }
            bestPay = NONE;
            bestSet = NONE;
            buy(size - 1, 0, 0, looks - army.worthBorneBy(man));
            return which ? bestSet : bestPay;
        }

        /**
         * From the last one to the first one, and first without it: so sets rise, and of several
         * at the least pay the least is met first.
         */
        private void buy(int at, int set, int pay, int missing) {
            if (bestPay != NONE && pay >= bestPay) {
                return;
            }
            if (missing <= 0) {
                bestPay = pay;
                bestSet = set;
            } else if (at >= 0 && at < MAX_CHOICE) {
                buy(at - 1, set, pay, missing);
                buy(at - 1, set | 1 << member[at], pay + price[at], missing - worth[at]);
            }
        }

        /** How many enemies the tape tells; NONE if it does not tell enemies. */
        int hear(Army army, Tape tape) {
            int count = tape.length / 2;
            if (tape.length % 2 != 0 || count > MAX_ENEMIES) {
                return NONE;
            }
            for (int enemy = 0; enemy < count; enemy++) {
                int place = tape.byteAt(2 * enemy);
                int weapon = tape.byteAt(2 * enemy + 1);
                if (place >= PLACES || weapon >= WEAPONS) {
                    return NONE;
                }
                meant[enemy] = army.scars.menStruck(place, weapon) & army.men.alive;
            }
            return count;
        }

        int mostRight(int count) {
            Arrays.fill(enemyOf, NONE);
            int right = 0;
            for (int enemy = 0; enemy < count && enemy < MAX_ENEMIES; enemy++) {
                asked = 0;
                if (findMan(enemy)) {
                    right++;
                }
            }
            return right;
        }

        /** Each man is asked once a search, so it goes no deeper than there are men. */
        private boolean findMan(int enemy) {
            for (int man = 0; man < MAX_MEN; man++) {
                if ((meant[enemy] & ~asked & 1 << man) != 0) {
                    asked |= 1 << man;
                    if (enemyOf[man] == NONE || findMan(enemyOf[man])) {
                        enemyOf[man] = enemy;
                        return true;
                    }
                }
            }
            return false;
        }
    }
}
