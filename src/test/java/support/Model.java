import java.util.ArrayList;
import java.util.Arrays;
import java.util.List;
import java.util.NoSuchElementException;
import java.util.TreeSet;

/** A slow and plain second reading of the document, to compare random runs with. */
public final class Model {
    static final class Battle {
        int town, day;
        TreeSet<Integer> arms = new TreeSet<>();
    }

    static final class Man {
        boolean alive = true;
        int name, coins;
    }

    static final class Scar {
        int place, weapon, battle, depth, told, cut, bears;
        TreeSet<Integer> trades = new TreeSet<>();
    }

    static final class State {
        List<Battle> battles = new ArrayList<>();
        List<Man> men = new ArrayList<>();
        List<Scar> scars = new ArrayList<>();
        List<int[]> log = new ArrayList<>();
        String law = null;
        int lines = -1, today = 0, seed = 1, texts = 0;

        State copy() {
            State s = new State();
            s.battles.addAll(battles);
            for (Man m : men) {
                Man c = new Man();
                c.alive = m.alive;
                c.name = m.name;
                c.coins = m.coins;
                s.men.add(c);
            }
            for (Scar x : scars) {
                Scar c = new Scar();
                c.place = x.place;
                c.weapon = x.weapon;
                c.battle = x.battle;
                c.depth = x.depth;
                c.told = x.told;
                c.cut = x.cut;
                c.bears = x.bears;
                c.trades.addAll(x.trades);
                s.scars.add(c);
            }
            for (int[] row : log) {
                s.log.add(row.clone());
            }
            s.law = law;
            s.lines = lines;
            s.today = today;
            s.seed = seed;
            s.texts = texts;
            return s;
        }
    }

    static final class Wrong extends Exception {
        private static final long serialVersionUID = 1L;
        final int at;

        Wrong(int at) {
            super("at " + at);
            this.at = at;
        }
    }

    /** Things of a text with where they begin. */
    static final class Things {
        final List<String> words = new ArrayList<>();
        final List<Integer> begins = new ArrayList<>();
        int next = 0;

        Things(String text) {
            int i = 0;
            while (i < text.length()) {
                char c = text.charAt(i);
                if (c == ' ') {
                    i++;
                    continue;
                }
                String set = Character.isDigit(c) && c < 128 ? "0123456789"
                        : c >= 'a' && c <= 'z' ? "abcdefghijklmnopqrstuvwxyz" : null;
                int j = i + 1;
                while (set != null && j < text.length() && set.indexOf(text.charAt(j)) >= 0) {
                    j++;
                }
                words.add(text.substring(i, j));
                begins.add(i);
                i = j;
            }
            words.add("");
            begins.add(text.length());
        }

        String peek() {
            return words.get(next);
        }

        Wrong wrong() {
            return new Wrong(begins.get(next));
        }

        boolean done() {
            return peek().isEmpty();
        }

        boolean number() {
            return !done() && Character.isDigit(peek().charAt(0));
        }

        boolean maybe(String w) {
            if (!done() && peek().equals(w)) {
                next++;
                return true;
            }
            return false;
        }

        void must(String w) throws Wrong {
            if (!maybe(w)) {
                throw wrong();
            }
        }

        int number(int digits, int low, int high) throws Wrong {
            if (!number() || peek().length() > digits) {
                throw wrong();
            }
            int v = Integer.parseInt(peek());
            if (v < low || v > high) {
                throw wrong();
            }
            next++;
            return v;
        }
    }

    private StringBuilder tape = new StringBuilder();
    private State s = new State();
    private State image = null;
    private final List<State> before = new ArrayList<>();
    private int fault = -1;

    public Model() {
    }

    public int feed(int a, int b, int c, int d, int e) {
        if (tape.length() > 380) {
            return -1;
        }
        for (int n : new int[] {a, b, c, d, e}) {
            tape.append((char) (n >>> 24)).append((char) (n >>> 16 & 255)).append((char) (n >>> 8 & 255))
                    .append((char) (n & 255));
        }
        return tape.length();
    }

    public boolean end(int n) {
        if (n < 0 || n > tape.length()) {
            return false;
        }
        tape.setLength(n);
        return true;
    }

    private String use() {
        String text = tape.toString();
        tape = new StringBuilder();
        return text;
    }

    public int army() {
        State next = s.copy();
        try {
            armyText(new Things(use()), next);
            fault = -1;
        } catch (Wrong w) {
            fault = w.at;
            throw new IllegalArgumentException();
        }
        if (s.texts == 12) {
            throw new UnsupportedOperationException();
        }
        s = next;
        before.clear();
        return ++s.texts;
    }

    private void armyText(Things t, State n) throws Wrong {
        if (t.done()) {
            return;
        }
        int lines = 0;
        while (true) {
            if (t.done() || ++lines > 14) {
                throw t.wrong();
            }
            armyLine(t, n);
            if (t.done()) {
                return;
            }
            t.must(";");
        }
    }

    private void armyLine(Things t, State n) throws Wrong {
        String w = t.peek();
        if (w.equals("battle") && n.battles.size() == 8 || w.equals("man") && n.men.size() == 10
                || w.equals("scar") && n.scars.size() == 24) {
            throw t.wrong();
        }
        if (t.maybe("battle")) {
            Battle b = new Battle();
            b.town = t.number(4, 0, 9);
            t.must("day");
            b.day = t.number(4, 0, 999);
            t.must("with");
            do {
                b.arms.add(t.number(4, 0, 5));
            } while (t.number());
            n.battles.add(b);
        } else if (t.maybe("man")) {
            Man m = new Man();
            m.coins = t.number(4, 0, 9999);
            m.name = n.men.size();
            n.men.add(m);
        } else if (t.maybe("scar")) {
            Scar x = new Scar();
            x.place = t.number(4, 0, 11);
            t.must("of");
            x.weapon = t.number(4, 0, 5);
            t.must("in");
            x.battle = t.number(4, 0, n.battles.size() - 1);
            t.must("depth");
            x.depth = t.number(4, 1, 9);
            t.must("on");
            x.cut = t.number(4, 0, n.men.size() - 1);
            x.bears = t.maybe("by") ? t.number(4, 0, n.men.size() - 1) : x.cut;
            n.scars.add(x);
        } else if (t.maybe("told")) {
            Scar x = n.scars.isEmpty() ? null : n.scars.get(t.number(4, 0, n.scars.size() - 1));
            if (x == null) {
                throw t.wrong();
            }
            x.told = t.number(4, 0, 9);
        } else if (t.maybe("today")) {
            n.today = t.number(4, 0, 999);
        } else if (t.maybe("dead")) {
            n.men.get(t.number(4, 0, n.men.size() - 1)).alive = false;
        } else {
            throw t.wrong();
        }
    }

    public int law() {
        String text = use();
        int lines;
        try {
            lines = lawText(new Things(text), null, 0)[2];
            fault = -1;
        } catch (Wrong w) {
            fault = w.at;
            throw new IllegalArgumentException();
        }
        s.law = text;
        s.lines = lines;
        before.clear();
        return lines;
    }

    /** Reads and weighs at once: worth, void, lines. */
    private int[] lawText(Things t, Scar x, int bearer) throws Wrong {
        int[] out = new int[3];
        while (!t.done() || out[2] > 0) {
            if (t.done() || out[2] == 12) {
                throw t.wrong();
            }
            String kind = t.peek();
            if (!List.of("worth", "less", "void").contains(kind)) {
                throw t.wrong();
            }
            t.next++;
            int n = kind.equals("void") ? 0 : t.number(3, 0, 99);
            boolean holds = !t.maybe("if") || or(t, x, bearer, 0);
            if (holds) {
                out[0] += kind.equals("worth") ? n : -n;
                out[1] |= kind.equals("void") ? 1 : 0;
            }
            out[2]++;
            if (t.done()) {
                break;
            }
            t.must(";");
        }
        return out;
    }

    private boolean or(Things t, Scar x, int bearer, int deep) throws Wrong {
        boolean all = false;
        do {
            boolean one = true;
            do {
                one &= atom(t, x, bearer, deep);
            } while (t.maybe("and"));
            all |= one;
        } while (t.maybe("or"));
        return all;
    }

    private boolean atom(Things t, Scar x, int bearer, int deep) throws Wrong {
        if ((t.peek().equals("not") || t.peek().equals("(")) && deep == 6) {
            throw t.wrong();
        }
        if (t.maybe("not")) {
            return !atom(t, x, bearer, deep + 1);
        }
        if (t.maybe("(")) {
            boolean c = or(t, x, bearer, deep + 1);
            t.must(")");
            return c;
        }
        if (t.maybe("own")) {
            return x != null && x.cut == bearer;
        }
        if (t.maybe("fits")) {
            return x != null && s.battles.get(x.battle).arms.contains(x.weapon);
        }
        if (t.maybe("ear")) {
            return x != null && (x.place == 2 || x.place == 3);
        }
        int left = sum(t, x, bearer);
        if (t.maybe("<")) {
            return left < sum(t, x, bearer);
        }
        t.must(">");
        return left > sum(t, x, bearer);
    }

    private int sum(Things t, Scar x, int bearer) throws Wrong {
        int sum = 0;
        do {
            if (t.number()) {
                sum += t.number(3, 0, 999);
                continue;
            }
            switch (t.peek()) {
                case "place": sum += x == null ? 0 : x.place; break;
                case "weapon": sum += x == null ? 0 : x.weapon; break;
                case "battle": sum += x == null ? 0 : x.battle; break;
                case "depth": sum += x == null ? 0 : x.depth; break;
                case "told": sum += x == null ? 0 : x.told; break;
                case "days": sum += x == null ? 0 : s.today - s.battles.get(x.battle).day; break;
                case "bearer": sum += bearer; break;
                default: throw t.wrong();
            }
            t.next++;
        } while (t.maybe("+"));
        return sum;
    }

    private int[] weigh(int scar, int bearer) {
        Scar x = s.scars.get(scar);
        if (s.law == null) {
            return new int[] {x.depth + x.told, 0};
        }
        try {
            int[] w = lawText(new Things(s.law), x, bearer);
            return new int[] {w[1] == 1 ? 0 : Math.max(0, w[0]), w[1]};
        } catch (Wrong w) {
            throw new RuntimeException("the model's law broke", w);
        }
    }

    private int worth(int scar) {
        return weigh(scar, s.scars.get(scar).bears)[0];
    }

    private boolean isVoid(int scar) {
        return weigh(scar, s.scars.get(scar).bears)[1] == 1;
    }

    public int fault() {
        return fault;
    }

    private void need(int i, int size) {
        if (i < 0 || i >= size) {
            throw new IndexOutOfBoundsException();
        }
    }

    private void wrongIf(boolean wrong) {
        if (wrong) {
            throw new IllegalArgumentException();
        }
    }

    private void stateIf(boolean wrong) {
        if (wrong) {
            throw new IllegalStateException();
        }
    }

    private int menCount() {
        return s.men.size();
    }

    private int scarCount() {
        return s.scars.size();
    }

    public int battle(int b, int what) {
        need(b, s.battles.size());
        Battle battle = s.battles.get(b);
        int out = 0;
        switch (what) {
            case 0:
                return battle.town;
            case 1:
                return battle.day;
            case 2:
                for (int w : battle.arms) {
                    out += 1 << w;
                }
                return out;
            case 3:
                for (Scar x : s.scars) {
                    out |= x.battle == b ? 1 << x.cut : 0;
                }
                return out;
            case 4:
                for (Scar x : s.scars) {
                    out |= x.battle == b ? 1 << x.bears : 0;
                }
                return out;
            case 5:
                for (int i = 0; i < scarCount(); i++) {
                    Scar x = s.scars.get(i);
                    if (x.battle == b && x.cut == x.bears && !isVoid(i) && s.men.get(x.bears).alive) {
                        out |= 1 << x.bears;
                    }
                }
                return out;
            case 6:
                int[] at = new int[12];
                for (Scar x : s.scars) {
                    if (x.battle == b) {
                        out = Math.max(out, ++at[x.place]);
                    }
                }
                return out;
            default:
                throw new NoSuchElementException();
        }
    }

    private int bears(int man) {
        int out = 0;
        for (int i = 0; i < scarCount(); i++) {
            out |= s.scars.get(i).bears == man ? 1 << i : 0;
        }
        return out;
    }

    private int looks(int man, boolean ears) {
        int sum = 0;
        boolean left = false;
        boolean right = false;
        for (int i = 0; i < scarCount(); i++) {
            if (s.scars.get(i).bears == man) {
                sum += worth(i);
                left |= s.scars.get(i).place == 2;
                right |= s.scars.get(i).place == 3;
            }
        }
        return sum + (ears && left && right ? 10 : 0);
    }

    private int pension(int name) {
        int sum = 0;
        for (int i = 0; i < scarCount(); i++) {
            sum += s.scars.get(i).cut == name ? worth(i) : 0;
        }
        return sum;
    }

    private int cycle(int man) {
        int out = 0;
        for (int at = man; (out >> at & 1) == 0; at = s.men.get(at).name) {
            out |= 1 << at;
        }
        return out;
    }

    private int holds(int man) {
        int out = 0;
        for (int b = 0; b < s.battles.size(); b++) {
            int all = 0;
            int his = 0;
            for (Scar x : s.scars) {
                all += x.battle == b ? 1 : 0;
                his += x.battle == b && x.bears == man ? 1 : 0;
            }
            out |= all > 0 && all == his ? 1 << b : 0;
        }
        return out;
    }

    public int man(int man, int what) {
        need(man, menCount());
        Man m = s.men.get(man);
        switch (what) {
            case 0: return m.alive ? 1 : 0;
            case 1: return m.name;
            case 2: return m.coins;
            case 3: return bears(man);
            case 4: return looks(man, true);
            case 5: return pension(man);
            case 6: return cycle(man);
            case 7: return holds(man);
            default: throw new NoSuchElementException();
        }
    }

    private int times(int scar) {
        int n = 0;
        for (int[] row : s.log) {
            n += row[1] == scar ? 1 : 0;
        }
        return n;
    }

    private int price(int scar) {
        Scar x = s.scars.get(scar);
        return s.men.get(x.bears).alive ? Math.max(0, worth(scar) * 3 + x.depth - times(scar) * 2) : 0;
    }

    public int scar(int scar, int what) {
        need(scar, scarCount());
        Scar x = s.scars.get(scar);
        int out = 0;
        switch (what) {
            case 0: return x.place;
            case 1: return x.weapon;
            case 2: return x.battle;
            case 3: return x.depth;
            case 4: return x.told;
            case 5: return x.cut;
            case 6: return x.bears;
            case 7: return worth(scar);
            case 8: return price(scar);
            case 9:
                for (int t : x.trades) {
                    out += 1 << t;
                }
                return out;
            case 10:
                for (int i = 0; i < scarCount(); i++) {
                    Scar y = s.scars.get(i);
                    if (i != scar && y.weapon == x.weapon && y.battle == x.battle && y.depth == x.depth) {
                        out += 1 << i;
                    }
                }
                return out;
            default: throw new NoSuchElementException();
        }
    }

    public int who(int name) {
        need(name, menCount());
        int man = 0;
        while (s.men.get(man).name != name) {
            man++;
        }
        return man;
    }

    private void act() {
        before.add(s.copy());
        if (before.size() > 12) {
            before.remove(0);
        }
    }

    private void doHand(int scar, int to, int pay) {
        Scar x = s.scars.get(scar);
        Man giver = s.men.get(x.bears);
        Man taker = s.men.get(to);
        taker.coins -= pay;
        giver.coins = Math.min(9999, giver.coins + pay);
        int name = giver.name;
        giver.name = taker.name;
        taker.name = name;
        s.log.add(0, new int[] {s.today, scar, x.bears, to, pay});
        if (s.log.size() > 60) {
            s.log.remove(60);
        }
        x.bears = to;
    }

    public int hand(int scar, int to, int pay) {
        need(scar, scarCount());
        need(to, menCount());
        int from = s.scars.get(scar).bears;
        wrongIf(pay < 0 || pay > 9999 || from == to);
        stateIf(!s.men.get(from).alive || !s.men.get(to).alive || s.men.get(to).coins < pay);
        act();
        doHand(scar, to, pay);
        return s.men.get(from).name;
    }

    public int polish(int scar, int trade) {
        need(scar, scarCount());
        need(trade, 3);
        stateIf(s.scars.get(scar).trades.contains(trade));
        act();
        s.scars.get(scar).trades.add(trade);
        return s.scars.get(scar).told = Math.min(9, s.scars.get(scar).told + 1);
    }

    public int die(int name) {
        int man = who(name);
        stateIf(!s.men.get(man).alive);
        act();
        s.men.get(man).alive = false;
        return man;
    }

    public int widow(int man, int to) {
        need(man, menCount());
        need(to, menCount());
        wrongIf(man == to);
        stateIf(s.men.get(man).alive || !s.men.get(to).alive);
        act();
        int n = 0;
        for (Scar x : s.scars) {
            if (x.bears == man) {
                x.bears = to;
                n++;
            }
        }
        s.men.get(to).coins = Math.min(9999, s.men.get(to).coins + s.men.get(man).coins);
        s.men.get(man).coins = 0;
        return n;
    }

    public int wound(int place, int weapon, int battle, int depth, int man) {
        need(place, 12);
        need(weapon, 6);
        need(battle, s.battles.size());
        need(man, menCount());
        wrongIf(depth < 1 || depth > 9);
        stateIf(!s.men.get(man).alive);
        if (scarCount() == 24) {
            throw new UnsupportedOperationException();
        }
        act();
        Scar x = new Scar();
        x.place = place;
        x.weapon = weapon;
        x.battle = battle;
        x.depth = depth;
        x.cut = man;
        x.bears = man;
        s.scars.add(x);
        return scarCount() - 1;
    }

    private int pass(int n) {
        int got = 0;
        for (int i = 0; i < n && s.today < 9999; i++) {
            s.today++;
            for (int m = 0; m < menCount() && s.today % 30 == 0; m++) {
                Man man = s.men.get(m);
                if (man.alive) {
                    int had = man.coins;
                    man.coins = Math.min(9999, had + pension(man.name));
                    got += man.coins - had;
                }
            }
        }
        return got;
    }

    public int days(int n) {
        wrongIf(n < 1 || n > 400);
        act();
        return pass(n);
    }

    private int[] sales(int n) {
        int[] out = new int[2];
        for (int i = 0; i < n && scarCount() > 0; i++) {
            s.seed = (int) (1103515245L * s.seed + 12345L);
            int scar = (int) ((s.seed & 0xffffffffL) >> 16 & 32767) % scarCount();
            int buyer = buyer(scar);
            int price = price(scar);
            if (s.men.get(s.scars.get(scar).bears).alive && buyer >= 0 && s.men.get(buyer).coins >= price) {
                doHand(scar, buyer, price);
                out[0]++;
                out[1] += price;
            }
        }
        return out;
    }

    public int market(int n) {
        wrongIf(n < 0 || n > 30);
        act();
        return sales(n)[0];
    }

    public int swaps() {
        int[] name = new int[menCount()];
        for (int i = 0; i < name.length; i++) {
            name[i] = s.men.get(i).name;
        }
        int n = 0;
        for (int i = 0; i < name.length; i++) {
            while (name[i] != i) {
                int other = name[i];
                name[i] = name[other];
                name[other] = other;
                n++;
            }
        }
        return n;
    }

    private boolean apart(int a, int b) {
        Battle x = s.battles.get(a);
        Battle y = s.battles.get(b);
        return a == b || Math.abs(x.town - y.town) <= Math.abs(x.day - y.day);
    }

    public boolean his(int set) {
        return allHis(set, voids());
    }

    private boolean allHis(int set, int voids) {
        for (int i = 0; i < scarCount(); i++) {
            if ((set >> i & 1) == 0) {
                continue;
            }
            if ((voids >> i & 1) != 0) {
                return false;
            }
            for (int j = 0; j < i; j++) {
                Scar x = s.scars.get(i);
                Scar y = s.scars.get(j);
                if ((set >> j & 1) != 0 && (x.place == y.place || !apart(x.battle, y.battle))) {
                    return false;
                }
            }
        }
        return true;
    }

    public int largest(int man, boolean which) {
        need(man, menCount());
        int all = bears(man);
        if (Integer.bitCount(all) > 12) {
            return -3;
        }
        int best = 0;
        int voids = voids();
        for (int sub = all; sub > 0; sub = sub - 1 & all) {
            if (Integer.bitCount(sub) >= Integer.bitCount(best) && allHis(sub, voids)) {
                best = sub;
            }
        }
        return which ? best : Integer.bitCount(best);
    }

    public int betrays(int man) {
        need(man, menCount());
        int all = bears(man);
        if (Integer.bitCount(all) > 12) {
            return -3;
        }
        int out = 0;
        for (int i = 0; i < scarCount() && !his(all); i++) {
            if ((all >> i & 1) != 0 && his(all & ~(1 << i))) {
                out |= 1 << i;
            }
        }
        return out;
    }

    public int fewest() {
        int need = 0;
        int[] has = new int[menCount()];
        for (Scar x : s.scars) {
            need |= 1 << x.battle;
            has[x.bears] |= 1 << x.battle;
        }
        int best = (1 << menCount()) - 1;
        for (int set = best; set >= 0; set--) {
            int got = 0;
            for (int m = 0; m < menCount(); m++) {
                got |= (set >> m & 1) != 0 ? has[m] : 0;
            }
            if (got == need && Integer.bitCount(set) <= Integer.bitCount(best)) {
                best = set;
            }
        }
        return best;
    }

    public int least(int man, int n, boolean which) {
        need(man, menCount());
        wrongIf(n < 0 || n > 999);
        stateIf(!s.men.get(man).alive);
        List<Integer> offers = new ArrayList<>();
        for (int i = 0; i < scarCount(); i++) {
            int b = s.scars.get(i).bears;
            if (b != man && s.men.get(b).alive) {
                offers.add(i);
            }
        }
        if (offers.size() > 12) {
            return -3;
        }
        int[] worths = new int[12];
        int[] prices = new int[12];
        for (int i = 0; i < offers.size(); i++) {
            worths[i] = weigh(offers.get(i), man)[0];
            prices[i] = price(offers.get(i));
        }
        int now = looks(man, false);
        int bestPay = -1;
        int bestSet = -1;
        for (int set = 0; set < 1 << offers.size(); set++) {
            int worth = now;
            int pay = 0;
            int bits = 0;
            for (int i = 0; i < offers.size(); i++) {
                if ((set >> i & 1) != 0) {
                    worth += worths[i];
                    pay += prices[i];
                    bits |= 1 << offers.get(i);
                }
            }
            if (worth >= n && (bestPay < 0 || pay < bestPay)) {
                bestPay = pay;
                bestSet = bits;
            }
        }
        return which ? bestSet : bestPay;
    }

    public int gains(int man, int scar) {
        need(man, menCount());
        need(scar, scarCount());
        Scar x = s.scars.get(scar);
        int was = looks(man, true);
        int bearer = x.bears;
        x.bears = man;
        int is = looks(man, true);
        x.bears = bearer;
        return is - was;
    }

    public int buyer(int scar) {
        need(scar, scarCount());
        int best = -1;
        for (int m = menCount() - 1; m >= 0; m--) {
            if (s.men.get(m).alive && s.scars.get(scar).bears != m
                    && (best < 0 || gains(m, scar) >= gains(best, scar))) {
                best = m;
            }
        }
        return best;
    }

    public int enemies(int enemy) {
        String told = use();
        wrongIf(told.length() % 2 != 0 || told.length() > 20);
        int[] could = new int[told.length() / 2];
        for (int i = 0; i < could.length; i++) {
            int place = told.charAt(2 * i);
            int weapon = told.charAt(2 * i + 1);
            wrongIf(place > 11 || weapon > 5);
            for (Scar x : s.scars) {
                if (x.place == place && x.weapon == weapon && s.men.get(x.bears).alive) {
                    could[i] |= 1 << x.bears;
                }
            }
        }
        wrongIf(enemy < -1 || enemy >= could.length);
        return enemy >= 0 ? could[enemy] : most(could, 0, 0);
    }

    private int most(int[] could, int i, int used) {
        if (i == could.length) {
            return 0;
        }
        int best = most(could, i + 1, used);
        for (int m = 0; m < menCount(); m++) {
            if ((could[i] >> m & 1) != 0 && (used >> m & 1) == 0 && best < could.length - i) {
                best = Math.max(best, 1 + most(could, i + 1, used | 1 << m));
            }
        }
        return best;
    }

    public int sergeant() {
        int best = -1;
        int most = 0;
        for (int m = 0; m < menCount(); m++) {
            if (Integer.bitCount(holds(m)) > most) {
                best = m;
                most = Integer.bitCount(holds(m));
            }
        }
        return best;
    }

    public int turn(int men, int n, int day, int man) {
        if (man != -1) {
            need(man, menCount());
        }
        wrongIf(n < 1 || n > 30 || day < 0 || day > 9999);
        List<Integer> set = new ArrayList<>();
        for (int m = 0; m < menCount(); m++) {
            if ((men >> m & 1) != 0) {
                set.add(m);
            }
        }
        int had = 0;
        for (int d = 0; d < day && !set.isEmpty(); d++) {
            had += set.get(d / n % set.size()) == man ? 1 : 0;
        }
        return man != -1 ? had : set.isEmpty() ? -1 : set.get(day / n % set.size());
    }

    public int polished(int trade) {
        need(trade, 3);
        int out = 0;
        for (int i = 0; i < scarCount(); i++) {
            out |= s.scars.get(i).trades.contains(trade) ? 1 << i : 0;
        }
        return out;
    }

    public int bargain(boolean much) {
        int best = -1;
        int most = 0;
        for (int i = 0; i < scarCount(); i++) {
            int buyer = buyer(i);
            if (s.men.get(s.scars.get(i).bears).alive && buyer >= 0) {
                int value = gains(buyer, i) * 3 - price(i);
                if (best < 0 || value > most) {
                    best = i;
                    most = value;
                }
            }
        }
        return much ? most : best;
    }

    public int hands(int scar, int k) {
        need(scar, scarCount());
        wrongIf(k < 0);
        if (k == 0) {
            return s.scars.get(scar).bears;
        }
        List<Integer> from = new ArrayList<>();
        for (int[] row : s.log) {
            if (row[1] == scar) {
                from.add(row[2]);
            }
        }
        return k <= from.size() ? from.get(k - 1) : -1;
    }

    public int mourned() {
        int out = 0;
        for (Man m : s.men) {
            out |= m.alive ? 0 : 1 << m.name;
        }
        return out;
    }

    public int after(int man, int n) {
        need(man, menCount());
        wrongIf(n < 0 || n > 400);
        State was = s;
        s = s.copy();
        pass(n);
        int coins = s.men.get(man).coins;
        s = was;
        return coins;
    }

    public int shared(int man, int other) {
        need(man, menCount());
        need(other, menCount());
        wrongIf(man == other);
        int out = 0;
        for (int b = 0; b < s.battles.size(); b++) {
            int at = battle(b, 3);
            out |= (at >> man & 1) != 0 && (at >> other & 1) != 0 ? 1 << b : 0;
        }
        return out;
    }

    public boolean route(int set) {
        for (int i = 0; i < s.battles.size(); i++) {
            for (int j = 0; j < s.battles.size(); j++) {
                if ((set >> i & 1) != 0 && (set >> j & 1) != 0 && !apart(i, j)) {
                    return false;
                }
            }
        }
        return true;
    }

    public int campaign(boolean which) {
        int best = 0;
        for (int set = (1 << s.battles.size()) - 1; set > 0; set--) {
            if (Integer.bitCount(set) >= Integer.bitCount(best) && route(set)) {
                best = set;
            }
        }
        return which ? best : Integer.bitCount(best);
    }

    public int voids() {
        int out = 0;
        for (int i = 0; i < scarCount(); i++) {
            out |= isVoid(i) ? 1 << i : 0;
        }
        return out;
    }

    public int lies() {
        int out = 0;
        for (int i = 0; i < scarCount(); i++) {
            Battle b = s.battles.get(s.scars.get(i).battle);
            out |= !b.arms.contains(s.scars.get(i).weapon) || b.day > s.today ? 1 << i : 0;
        }
        return out;
    }

    public int crosswise() {
        int out = 0;
        for (int m = 0; m < menCount(); m++) {
            out |= s.men.get(m).alive && !s.men.get(s.men.get(m).name).alive ? 1 << m : 0;
        }
        return out;
    }

    private int[] tried(int n, int seed) {
        State was = s;
        s = s.copy();
        s.seed = seed;
        int[] out = sales(n);
        s = was;
        return out;
    }

    public int trial(int n, boolean coins) {
        wrongIf(n < 0 || n > 30);
        return tried(n, s.seed)[coins ? 1 : 0];
    }

    public int span(int n, boolean most) {
        wrongIf(n < 0 || n > 30);
        int[] sold = new int[6];
        for (int i = 0; i < 6; i++) {
            sold[i] = tried(n, i + 1)[0];
        }
        Arrays.sort(sold);
        return sold[most ? 5 : 0];
    }

    public int led(int scar, boolean often) {
        need(scar, scarCount());
        return often ? times(scar) : s.battles.get(s.scars.get(scar).battle).town;
    }

    public int log(int ago, int what) {
        if (what < 0 || what > 4) {
            throw new NoSuchElementException();
        }
        return ago < 0 || ago >= s.log.size() ? -1 : s.log.get(ago)[what];
    }

    public int seed(int n) {
        int was = s.seed;
        s.seed = n;
        return was;
    }

    public boolean undo() {
        if (before.isEmpty()) {
            return false;
        }
        s = before.remove(before.size() - 1);
        return true;
    }

    public void image() {
        image = s.copy();
    }

    public boolean back() {
        if (image == null) {
            return false;
        }
        s = image.copy();
        before.clear();
        return true;
    }

    public int count(int what) {
        int out = 0;
        switch (what) {
            case 0: return s.battles.size();
            case 1: return menCount();
            case 2: return scarCount();
            case 3: return s.texts;
            case 4: return s.lines;
            case 5: return s.today;
            case 6:
                for (int m = 0; m < menCount(); m++) {
                    out |= s.men.get(m).alive ? 1 << m : 0;
                }
                return out;
            case 7:
                for (Man m : s.men) {
                    out += m.coins;
                }
                return out;
            case 8: return s.log.size();
            case 9: return before.size();
            case 10:
                for (int i = 0; i < scarCount(); i++) {
                    out += worth(i);
                }
                return out;
            default: return -1;
        }
    }
}
