import java.util.ArrayList;
import java.util.Arrays;
import java.util.Comparator;
import java.util.List;
import java.util.Map;
import java.util.Set;
import java.util.TreeMap;
import java.util.TreeSet;
import java.util.function.ToLongFunction;

/**
 * The document once more, as plainly as the whole Java library lets one say it, to be compared with
 * GraveRails by AgainstModelTest. It shares no code with it, makes objects as it likes, and is slow.
 */
final class Model {

    // ---- what is told

    @SuppressWarnings("serial")
    static final class Fault extends RuntimeException {
        final int place;
        final int what;

        Fault(int place, int what) {
            super(null, null, false, false);
            this.place = place;
            this.what = what;
        }
    }

    static final class Grave {
        int number;
        int lane;
        int cell;
        int kind;
        int held;
        int fell = -1;
        int dug;
        int rounds;
        int stoneLane;
        int stoneCell;

        Grave(int number, int lane, int cell, int kind, int dug) {
            this.number = number;
            this.lane = stoneLane = lane;
            this.cell = stoneCell = cell;
            this.kind = kind;
            this.dug = dug;
        }

        Grave copy() {
            Grave g = new Grave(number, lane, cell, kind, dug);
            g.held = held;
            g.fell = fell;
            g.rounds = rounds;
            g.stoneLane = stoneLane;
            g.stoneCell = stoneCell;
            return g;
        }

        boolean lies() {
            return fell < 0;
        }
    }

    /** Never changed once it was read. */
    static final class Yard {
        int lanes;
        int cells;
        List<Grave> told = new ArrayList<>();
        Map<Integer, Integer> pairs = new TreeMap<>();
        Map<Integer, Integer> roots = new TreeMap<>();
        Set<Integer> heavy = new TreeSet<>();
        Set<Integer> floods = new TreeSet<>();

        boolean has(int lane, int cell) {
            return lane >= 0 && lane < lanes && cell >= 0 && cell < cells;
        }

        int root(int lane, int cell) {
            return roots.getOrDefault(lane * 100 + cell, 0);
        }
    }

    /** What a SUM or a TEST is of: a yard in the midst of a YEAR. */
    static final class Turn {
        final Going in;
        final Grave of;

        Turn(Going in, Grave of) {
            this.in = in;
            this.of = of;
        }

        long word(String word) {
            switch (word) {
                case "grave": return of.number;
                case "lane": return of.lane;
                case "cell": return of.cell;
                case "year": return in.year;
                case "age": return in.year - of.dug;
                case "child": return of.kind == 1 ? 1 : 0;
                case "unpaid": return of.kind == 2 ? 1 : 0;
                case "pair": {
                    Grave other = in.partner(of);
                    return other == null || !other.lies() ? 0 : other.cell - of.cell;
                }
                case "ahead": return in.at(of.lane, of.cell - 1) == null ? 0 : 1;
                case "behind":
                    return in.graves.stream().filter(g -> g.lies() && g.lane == of.lane && g.cell > of.cell).count();
                case "flood": return in.flooded ? 1 : 0;
                case "fallen": return in.graves.stream().filter(g -> !g.lies()).count();
                default: throw new IllegalStateException(word);
            }
        }
    }

    static final class Clause {
        ToLongFunction<Turn> sum;
        /** Null: without one. Not 0: it holds. */
        ToLongFunction<Turn> test;
    }

    static final class Rule {
        final List<Clause> clauses = new ArrayList<>();

        int steps(Turn turn) {
            for (Clause c : clauses) {
                if (c.test == null || c.test.applyAsLong(turn) != 0) {
                    long sum = c.sum.applyAsLong(turn);
                    return sum < 0 ? 0 : sum > 9 ? 9 : (int) sum;
                }
            }
            return 0;
        }
    }

    /** Reads along a text; what can't stand is thrown as a Fault. */
    static class Reader {
        static final Set<String> WORDS = Set.of("grave", "lane", "cell", "year", "age", "child",
                "unpaid", "pair", "ahead", "behind", "flood", "fallen");
        final String s;
        int i;
        int counted;

        Reader(String s) {
            this.s = s;
            blanks();
        }

        void blanks() {
            while (i < s.length() && s.charAt(i) == ' ') {
                i++;
            }
        }

        boolean over() {
            return i >= s.length();
        }

        String peekWord() {
            int j = i;
            while (j < s.length() && s.charAt(j) >= 'a' && s.charAt(j) <= 'z') {
                j++;
            }
            return s.substring(i, j);
        }

        String peekDigits() {
            int j = i;
            while (j < s.length() && s.charAt(j) >= '0' && s.charAt(j) <= '9') {
                j++;
            }
            return s.substring(i, j);
        }

        void pass(String what) {
            i += what.length();
            blanks();
        }

        boolean take(String sign) {
            boolean here = s.startsWith(sign, i);
            if (here) {
                pass(sign);
            }
            return here;
        }

        boolean takeWord(String word) {
            boolean here = peekWord().equals(word);
            if (here) {
                pass(word);
            }
            return here;
        }

        Fault fault(int what) {
            return new Fault(i, what);
        }

        int number(int least, int most) {
            String d = peekDigits();
            if (d.isEmpty()) {
                throw fault(0);
            }
            if (d.length() > 5 || Integer.parseInt(d) < least || Integer.parseInt(d) > most) {
                throw fault(1);
            }
            return Integer.parseInt(d);
        }

        Yard yard() {
            Yard y = new Yard();
            int clauses = 0;
            do {
                String word = peekWord();
                if (!List.of("yard", "grave", "pair", "root", "heavy", "flood").contains(word)) {
                    throw fault(0);
                }
                clauses++;
                if (clauses > 40 || word.equals("yard") != (clauses == 1)
                        || word.equals("grave") && y.told.size() == 10
                        || word.equals("root") && y.roots.size() == 6
                        || word.equals("flood") && y.floods.size() == 6) {
                    throw fault(4);
                }
                pass(word);
                yardClause(y, word);
            } while (another());
            return y;
        }

        boolean another() {
            if (over()) {
                return false;
            }
            if (!take(";")) {
                throw fault(0);
            }
            return true;
        }

        int passedNumber(int least, int most) {
            int n = number(least, most);
            pass(peekDigits());
            return n;
        }

        void yardClause(Yard y, String word) {
            switch (word) {
                case "yard":
                    y.lanes = passedNumber(1, 4);
                    y.cells = passedNumber(2, 20);
                    break;
                case "grave": {
                    int lane = passedNumber(0, y.lanes - 1);
                    int cell = number(0, y.cells - 1);
                    if (y.told.stream().anyMatch(g -> g.lane == lane && g.cell == cell)) {
                        throw fault(1);
                    }
                    pass(peekDigits());
                    String kind = peekWord();
                    int k = List.of("plain", "child", "unpaid", "stands").indexOf(kind);
                    if (k < 0) {
                        throw fault(0);
                    }
                    pass(kind);
                    y.told.add(new Grave(y.told.size(), lane, cell, k, 0));
                    break;
                }
                case "pair": {
                    int one = number(0, y.told.size() - 1);
                    if (y.pairs.containsKey(one)) {
                        throw fault(1);
                    }
                    pass(peekDigits());
                    int other = number(0, y.told.size() - 1);
                    if (y.pairs.containsKey(other) || one == other) {
                        throw fault(1);
                    }
                    pass(peekDigits());
                    y.pairs.put(one, other);
                    y.pairs.put(other, one);
                    break;
                }
                case "root": {
                    int lane = passedNumber(0, y.lanes - 1);
                    int cell = number(0, y.cells - 1);
                    if (y.root(lane, cell) > 0) {
                        throw fault(1);
                    }
                    pass(peekDigits());
                    y.roots.put(lane * 100 + cell, passedNumber(1, 9));
                    break;
                }
                case "heavy":
                    y.heavy.add(passedNumber(0, y.told.size() - 1));
                    break;
                default: {
                    int year = number(0, 99);
                    if (!y.floods.add(year)) {
                        throw fault(1);
                    }
                    pass(peekDigits());
                }
            }
        }

        Rule rule() {
            Rule r = new Rule();
            do {
                if (!peekWord().equals("go")) {
                    throw fault(0);
                }
                if (r.clauses.size() == 12) {
                    throw fault(4);
                }
                pass("go");
                Clause c = new Clause();
                c.sum = sum();
                if (takeWord("if")) {
                    c.test = test(0);
                }
                r.clauses.add(c);
            } while (another());
            return r;
        }

        ToLongFunction<Turn> test(int depth) {
            ToLongFunction<Turn> a = part(depth);
            while (takeWord("or")) {
                ToLongFunction<Turn> one = a;
                ToLongFunction<Turn> other = part(depth);
                a = t -> one.applyAsLong(t) != 0 || other.applyAsLong(t) != 0 ? 1 : 0;
            }
            return a;
        }

        ToLongFunction<Turn> part(int depth) {
            ToLongFunction<Turn> a = fact(depth);
            while (takeWord("and")) {
                ToLongFunction<Turn> one = a;
                ToLongFunction<Turn> other = fact(depth);
                a = t -> one.applyAsLong(t) != 0 && other.applyAsLong(t) != 0 ? 1 : 0;
            }
            return a;
        }

        ToLongFunction<Turn> fact(int depth) {
            boolean not = peekWord().equals("not");
            boolean bracket = s.startsWith("[", i);
            if ((not || bracket) && depth == 10) {
                throw fault(2);
            }
            if (not) {
                pass("not");
                ToLongFunction<Turn> a = fact(depth + 1);
                return t -> a.applyAsLong(t) == 0 ? 1 : 0;
            }
            if (bracket) {
                pass("[");
                ToLongFunction<Turn> a = test(depth + 1);
                if (!take("]")) {
                    throw fault(0);
                }
                return a;
            }
            ToLongFunction<Turn> left = sum();
            String sign = null;
            for (String each : List.of("<=", ">=", "<", "=", ">")) {
                if (sign == null && s.startsWith(each, i)) {
                    sign = each;
                }
            }
            if (sign == null) {
                throw fault(0);
            }
            count();
            pass(sign);
            return compared(left, sign, sum());
        }

        static ToLongFunction<Turn> compared(ToLongFunction<Turn> a, String sign, ToLongFunction<Turn> b) {
            return t -> {
                int c = Long.compare(a.applyAsLong(t), b.applyAsLong(t));
                return (c < 0 ? sign.startsWith("<") : c > 0 ? sign.startsWith(">") : sign.endsWith("=")) ? 1 : 0;
            };
        }

        void count() {
            counted++;
            if (counted > 60) {
                throw fault(3);
            }
        }

        ToLongFunction<Turn> sum() {
            ToLongFunction<Turn> a = term();
            while (!over() && "+-".indexOf(s.charAt(i)) >= 0) {
                boolean plus = s.charAt(i) == '+';
                pass("+");
                ToLongFunction<Turn> one = a;
                ToLongFunction<Turn> other = term();
                a = t -> plus ? one.applyAsLong(t) + other.applyAsLong(t) : one.applyAsLong(t) - other.applyAsLong(t);
            }
            return a;
        }

        ToLongFunction<Turn> term() {
            ToLongFunction<Turn> a = value();
            while (!over() && "*/%".indexOf(s.charAt(i)) >= 0) {
                char sign = s.charAt(i);
                pass("*");
                ToLongFunction<Turn> one = a;
                ToLongFunction<Turn> other = value();
                a = t -> {
                    long x = one.applyAsLong(t);
                    long y = other.applyAsLong(t);
                    if (sign == '*') {
                        return x * y;
                    }
                    return y == 0 ? 0 : sign == '/' ? x / y : x % y;
                };
            }
            return a;
        }

        ToLongFunction<Turn> value() {
            String d = peekDigits();
            if (!d.isEmpty()) {
                long n = number(0, 99999);
                count();
                pass(d);
                return t -> n;
            }
            String word = peekWord();
            if (!WORDS.contains(word)) {
                throw fault(0);
            }
            count();
            pass(word);
            return t -> t.word(word);
        }
    }

    // ---- how it goes on

    static final class Going {
        final Yard yard;
        int year;
        List<Grave> graves = new ArrayList<>();
        boolean flooded;
        final List<Integer> fell = new ArrayList<>();
        int byFlood;

        Going(Yard yard) {
            this.yard = yard;
        }

        Going copy(Yard in) {
            Going g = new Going(in);
            g.year = year;
            for (Grave each : graves) {
                g.graves.add(each.copy());
            }
            return g;
        }

        Grave at(int lane, int cell) {
            for (Grave g : graves) {
                if (g.lies() && g.lane == lane && g.cell == cell) {
                    return g;
                }
            }
            return null;
        }

        Grave partner(Grave g) {
            Integer other = yard.pairs.get(g.number);
            return other == null ? null : graves.get(other);
        }

        List<Grave> inOrder() {
            List<Grave> all = new ArrayList<>(graves);
            all.removeIf(g -> !g.lies());
            all.sort(Comparator.<Grave>comparingInt(g -> g.cell).thenComparingInt(g -> g.lane));
            return all;
        }

        void fall(Grave g) {
            g.fell = year;
            g.lane = -1;
            g.cell = -1;
            g.held = 0;
            fell.add(g.number);
        }

        void go(Rule rule, boolean drawn) {
            flooded = drawn || yard.floods.contains(year);
            for (Grave g : inOrder()) {
                if (flooded && g.cell < 2) {
                    fall(g);
                    byFlood++;
                }
            }
            for (Grave g : inOrder()) {
                turn(g, rule);
            }
            for (Grave g : graves) {
                boolean moves = !g.lies() || g.cell < g.stoneCell;
                if (moves && g.stoneCell >= 0 && (year % 2 == 0 || !yard.heavy.contains(g.number))) {
                    g.stoneCell--;
                    if (g.stoneCell < 0) {
                        g.stoneLane = -1;
                    }
                }
            }
            year++;
        }

        private void turn(Grave g, Rule rule) {
            if (g.held > 0) {
                g.held--;
                return;
            }
            Grave other = partner(g);
            if (g.kind == 3 || other != null && other.lies() && g.cell < other.cell) {
                return;
            }
            int steps = rule != null ? rule.steps(new Turn(this, g)) : g.kind == 1 || g.kind == 2 ? 2 : 1;
            while (steps-- > 0) {
                if (g.cell == 0) {
                    fall(g);
                    return;
                }
                int lane = g.lane;
                Grave there = at(lane, g.cell - 1);
                if (there != null) {
                    if (there.kind != 3) {
                        return;
                    }
                    if (lane - 1 >= 0 && at(lane - 1, g.cell - 1) == null) {
                        lane--;
                    } else if (lane + 1 < yard.lanes && at(lane + 1, g.cell - 1) == null) {
                        lane++;
                    } else {
                        return;
                    }
                    g.rounds++;
                }
                g.lane = lane;
                g.cell--;
                g.held = yard.root(g.lane, g.cell);
                if (g.held > 0) {
                    return;
                }
            }
        }

        int freeze(int lane) {
            int went = 0;
            for (int cell = 0; cell < yard.cells; cell++) {
                Grave g = at(lane, cell);
                if (g != null && g.kind != 3 && g.held == 0) {
                    int to = cell;
                    while (to > 0 && at(lane, to - 1) == null) {
                        to--;
                    }
                    if (to < cell) {
                        g.cell = to;
                        g.held = yard.root(lane, to);
                        went++;
                    }
                }
            }
            return went;
        }
    }

    // ---- the face

    private String tape = "";
    private final List<Rule> rules = new ArrayList<>();
    private Going now = new Going(new Yard());
    private List<int[]> sights = new ArrayList<>();
    private int force = -1;
    private int x;
    private final List<Going> before = new ArrayList<>();
    private final Object[][] images = new Object[4][];

    private boolean told() {
        return now.yard.lanes > 0;
    }

    private Rule inForce() {
        return force < 0 ? null : rules.get(force);
    }

    private Grave find(int grave) {
        return grave >= 0 && grave < now.graves.size() ? now.graves.get(grave) : null;
    }

    private Going later(int years) {
        Going g = now.copy(now.yard);
        for (int i = 0; i < years; i++) {
            g.go(inForce(), false);
        }
        return g;
    }

    private static boolean within(int n, int least, int most) {
        return n >= least && n <= most;
    }

    int feed(int... numbers) {
        if (tape.length() + 20 > 400) {
            return -1;
        }
        StringBuilder s = new StringBuilder(tape);
        for (int n : numbers) {
            s.append((char) (n >>> 24)).append((char) (n >>> 16 & 255)).append((char) (n >>> 8 & 255)).append((char) (n & 255));
        }
        tape = s.toString();
        return tape.length();
    }

    int end(int n) {
        if (!within(n, 0, tape.length())) {
            return -1;
        }
        tape = tape.substring(0, n);
        return n;
    }

    int yard() {
        String text = tape;
        tape = "";
        Yard y;
        try {
            y = new Reader(text).yard();
        } catch (Fault f) {
            return -2 - (1 + 8 * f.place + f.what);
        }
        now = new Going(y);
        for (Grave g : y.told) {
            now.graves.add(g.copy());
        }
        sights = new ArrayList<>();
        before.clear();
        return y.told.size();
    }

    int rule() {
        if (rules.size() == 6) {
            return -1;
        }
        String text = tape;
        tape = "";
        try {
            rules.add(new Reader(text).rule());
        } catch (Fault f) {
            return -2 - (1 + 8 * f.place + f.what);
        }
        return rules.size() - 1;
    }

    int force(int rule) {
        if (!within(rule, -1, rules.size() - 1)) {
            return -2;
        }
        int was = force;
        force = rule;
        return was;
    }

    int grave(int grave, int what) {
        Grave g = find(grave);
        if (g == null || !within(what, 0, 7)) {
            return -2;
        }
        int pair = now.yard.pairs.getOrDefault(grave, -1);
        return new int[] {g.lane, g.cell, g.kind, g.held, g.fell, g.dug, pair, g.rounds}[what];
    }

    int stone(int grave, int what) {
        Grave g = find(grave);
        if (g == null || !within(what, 0, 3)) {
            return -2;
        }
        Grave there = now.at(g.stoneLane, g.stoneCell);
        int heavy = now.yard.heavy.contains(grave) ? 1 : 0;
        return new int[] {g.stoneLane, g.stoneCell, heavy, there == null ? -1 : there.number}[what];
    }

    int at(int lane, int cell) {
        if (!now.yard.has(lane, cell)) {
            return -2;
        }
        Grave g = now.at(lane, cell);
        return g == null ? -1 : g.number;
    }

    int root(int lane, int cell) {
        return now.yard.has(lane, cell) ? now.yard.root(lane, cell) : -1;
    }

    private void act(Going then) {
        before.add(now);
        if (before.size() > 20) {
            before.remove(0);
        }
        now = then;
    }

    int year() {
        if (!told() || now.year == 999) {
            return -1;
        }
        act(later(1));
        return now.fell.size();
    }

    int dig(int lane, int cell, int kind) {
        int number = now.graves.size();
        if (at(lane, cell) != -1 || !within(kind, 0, 3) || number == 10) {
            return -1;
        }
        Going then = later(0);
        then.graves.add(new Grave(number, lane, cell, kind, now.year));
        act(then);
        return number;
    }

    boolean pay(int grave) {
        Grave g = find(grave);
        if (g == null || g.kind != 2 || !g.lies()) {
            return false;
        }
        Going then = later(0);
        then.graves.get(grave).kind = 0;
        act(then);
        return true;
    }

    int frost(int lane) {
        if (!within(lane, 0, now.yard.lanes - 1)) {
            return -1;
        }
        Going then = later(0);
        int went = then.freeze(lane);
        if (went == 0) {
            return -1;
        }
        act(then);
        return went;
    }

    int undo() {
        if (before.isEmpty()) {
            return -1;
        }
        now = before.remove(before.size() - 1);
        return before.size();
    }

    int ahead(int grave, int n, int what) {
        if (find(grave) == null || !within(n, 0, 200) || !within(what, 0, 1)) {
            return -2;
        }
        Grave g = later(n).graves.get(grave);
        return what == 0 ? g.lane : g.cell;
    }

    int fall(int grave) {
        if (find(grave) == null) {
            return -1;
        }
        Grave g = later(200).graves.get(grave);
        return g.lies() ? -2 : g.fell;
    }

    int abreast(int one, int other) {
        if (find(one) == null || find(other) == null || one == other) {
            return -1;
        }
        Going g = later(0);
        for (int i = 0; i <= 200; i++) {
            Grave a = g.graves.get(one);
            Grave b = g.graves.get(other);
            if (a.lies() && b.lies() && a.lane != b.lane && a.cell == b.cell) {
                return g.year;
            }
            g.go(inForce(), false);
        }
        return -2;
    }

    int begin(int grave, int what) {
        if (find(grave) == null || !within(what, 0, 2)) {
            return -1;
        }
        int[] answer = {0, -2, -2};
        for (int lane = 0; lane < now.yard.lanes; lane++) {
            for (int cell = 0; cell < now.yard.cells; cell++) {
                if (now.at(lane, cell) != null) {
                    continue;
                }
                Going g = later(0);
                Grave dug = new Grave(g.graves.size(), lane, cell, 0, g.year);
                g.graves.add(dug);
                for (int i = 0; i < 200; i++) {
                    g.go(inForce(), false);
                }
                if (dug.fell >= 0 && dug.fell == g.graves.get(grave).fell) {
                    answer[0]++;
                    if (answer[0] == 1) {
                        answer[1] = lane;
                        answer[2] = cell;
                    }
                }
            }
        }
        return answer[what];
    }

    int dug(int kind, int lane, int cell, int what) {
        if (!within(kind, 0, 2) || !now.yard.has(lane, cell) || !within(what, 0, 2)) {
            return -1;
        }
        Yard bare = new Yard();
        bare.lanes = now.yard.lanes;
        bare.cells = now.yard.cells;
        bare.roots = now.yard.roots;
        Going g = new Going(bare);
        g.graves.add(new Grave(0, lane, bare.cells - 1, kind, 0));
        List<Integer> ago = new ArrayList<>();
        for (int years = 0; years <= 40; years++) {
            if (g.at(lane, cell) != null) {
                ago.add(years);
            }
            g.go(inForce(), false);
        }
        if (what == 0) {
            return ago.size();
        }
        return ago.isEmpty() ? -2 : what == 1 ? ago.get(0) : ago.get(ago.size() - 1);
    }

    int sight(int grave, int cell, int year) {
        if (grave == -1) {
            sights = new ArrayList<>();
            return 0;
        }
        if (!within(grave, 0, now.yard.told.size() - 1) || !now.yard.has(0, cell) || !within(year, 0, 99)
                || sights.size() == 10) {
            return -2;
        }
        sights.add(new int[] {grave, cell, year});
        return sights.size();
    }

    /** Of each set that can be, by its bits: who was in which CELL (-1: fell) at the begin of 0 to 99. */
    private Map<Integer, int[][]> sets() {
        Map<Integer, int[][]> all = new TreeMap<>();
        int graves = now.yard.told.size();
        for (int set = 0; set < 1 << graves; set++) {
            Going g = new Going(now.yard);
            boolean ofThose = true;
            for (Grave each : now.yard.told) {
                boolean in = (set >> each.number & 1) == 1;
                Grave copy = each.copy();
                if (each.kind == 0 || each.kind == 2) {
                    copy.kind = in ? 2 : 0;
                } else {
                    ofThose &= !in;
                }
                g.graves.add(copy);
            }
            if (!ofThose) {
                continue;
            }
            int[][] cells = new int[100][];
            for (int year = 0; year < 100; year++) {
                cells[year] = g.graves.stream().mapToInt(each -> each.cell).toArray();
                g.go(inForce(), false);
            }
            if (sights.stream().allMatch(s -> cells[s[2]][s[0]] == s[1])) {
                all.put(set, cells);
            }
        }
        return all;
    }

    int unpaid(int what) {
        if (!told() || !within(what, 0, 2)) {
            return -1;
        }
        Set<Integer> sets = sets().keySet();
        if (what == 0 || sets.isEmpty()) {
            return sets.size();
        }
        int bits = 0;
        for (Grave g : now.yard.told) {
            boolean one = g.kind == 0 || g.kind == 2;
            boolean so = sets.stream().allMatch(set -> (set >> g.number & 1) == (what == 1 ? 1 : 0));
            bits |= one && so ? 1 << g.number : 0;
        }
        return bits;
    }

    int look(int year, int what) {
        if (!told() || !within(year, 0, 99) || !within(what, 0, 1)) {
            return -1;
        }
        Map<Integer, int[][]> sets = sets();
        if (sets.isEmpty() || now.yard.told.isEmpty()) {
            return -2;
        }
        int best = -1;
        int fewest = Integer.MAX_VALUE;
        for (Grave g : now.yard.told) {
            Map<Integer, Integer> alike = new TreeMap<>();
            sets.values().forEach(cells -> alike.merge(cells[year][g.number], 1, Integer::sum));
            int most = alike.values().stream().mapToInt(n -> n).max().getAsInt();
            if (most < fewest) {
                fewest = most;
                best = g.number;
            }
        }
        return what == 0 ? best : fewest;
    }

    int war(int n) {
        if (!told() || !within(n, 1, 50)) {
            return -1;
        }
        int room = 0;
        for (int i = 0; i < n; i++) {
            Going g = later(i);
            for (int lane = 0; lane < now.yard.lanes; lane++) {
                room += g.at(lane, now.yard.cells - 1) == null ? 1 : 0;
            }
        }
        return room;
    }

    int order(int k) {
        if (!told() || k < 0) {
            return -1;
        }
        List<Integer> fell = later(200).fell;
        return k < fell.size() ? fell.get(k) : -2;
    }

    int seed(int n) {
        if (n < 0) {
            return -1;
        }
        int was = x;
        x = n;
        return was;
    }

    int drawn(int m, int n, int p, int what) {
        if (!told() || !within(m, 1, 10) || !within(n, 1, 60) || !within(p, 0, 100) || !within(what, 0, 1)) {
            return -1;
        }
        int draws = x;
        int[] answer = new int[2];
        for (int i = 0; i < m; i++) {
            Going g = later(0);
            for (int j = 0; j < n; j++) {
                // 31 bits of the product are the same in int, with its wrap-around
                draws = draws * 1103515245 + 12345 & Integer.MAX_VALUE;
                g.go(inForce(), (draws >> 16) % 100 < p);
            }
            answer[0] += g.fell.size();
            answer[1] += g.byFlood;
        }
        return answer[what];
    }

    int count(int what) {
        if (!within(what, 0, 12)) {
            return -1;
        }
        int fallen = 0;
        int held = 0;
        int rounds = 0;
        for (Grave g : now.graves) {
            fallen += g.lies() ? 0 : 1;
            held |= g.held > 0 ? 1 << g.number : 0;
            rounds += g.rounds;
        }
        return Arrays.asList(now.yard.lanes, now.yard.cells, now.graves.size(), rules.size(), force, now.year,
                fallen, held, sights.size(), before.size(), x, tape.length(), rounds).get(what);
    }

    int image(int k) {
        if (!within(k, 0, 3)) {
            return -1;
        }
        images[k] = new Object[] {later(0), new ArrayList<>(sights), force, x};
        return now.year;
    }

    @SuppressWarnings("unchecked")
    int back(int k) {
        if (!within(k, 0, 3) || images[k] == null) {
            return -1;
        }
        now = ((Going) images[k][0]).copy(((Going) images[k][0]).yard);
        sights = new ArrayList<>((List<int[]>) images[k][1]);
        force = (Integer) images[k][2];
        x = (Integer) images[k][3];
        before.clear();
        return now.year;
    }
}
