import java.util.ArrayList;
import java.util.Arrays;
import java.util.BitSet;
import java.util.HashSet;
import java.util.LinkedHashMap;
import java.util.List;
import java.util.Map;
import java.util.Set;
import java.util.TreeMap;

/** The document once more, as slowly and plainly as it can be written, to hold the class against. */
final class Naive {
    static final class Fault extends RuntimeException {
        final int place;

        Fault(int place) {
            this.place = place;
        }
    }

    static final class Broken extends RuntimeException {
    }

    static final class Token {
        final String text;
        final int place;

        Token(String text, int place) {
            this.text = text;
            this.place = place;
        }
    }

    interface Sum {
        long ask(Map<String, Integer> of);
    }

    interface Test {
        boolean ask(Map<String, Integer> of);
    }

    static final class Clause {
        String head;
        int[] move;
        Sum sum;
        Test test;

        boolean holds(Map<String, Integer> of) {
            try {
                if (test != null && !test.ask(of)) {
                    return false;
                }
                if (sum != null) {
                    sum.ask(of);
                }
                return true;
            } catch (Broken broken) {
                return false;
            }
        }
    }

    static final class State {
        List<int[]> outlines = new ArrayList<>();
        List<Integer> sticks = new ArrayList<>();
        int[] terms = {8, 1, 3, 0, 0, 8, 8};
        // By figure and beat: null is off, else x, y, deep.
        int[][][] places = new int[6][12][];
        List<Clause> clauses = new ArrayList<>();
        Set<Integer> told = new HashSet<>();

        State copy() {
            State other = new State();
            for (int[] outline : outlines) {
                other.outlines.add(outline.clone());
            }
            other.sticks.addAll(sticks);
            other.terms = terms.clone();
            for (int f = 0; f < 6; f++) {
                for (int b = 0; b < 12; b++) {
                    other.places[f][b] = places[f][b] == null ? null : places[f][b].clone();
                }
            }
            other.clauses.addAll(clauses);
            other.told.addAll(told);
            return other;
        }
    }

    State s = new State();
    final State[] images = new State[2];
    List<Integer> tape = new ArrayList<>();
    int torn = 0;
    int fault = -1;
    int status = 0;
    int[] slips = null;
    final Map<Integer, Integer> refusals = new TreeMap<>();
    private int changes = 0;
    private String solvedFor = "";
    private boolean solved;
    private String madeFor = "";

    private int refuse(int by) {
        status = by;
        refusals.merge(by, 1, Integer::sum);
        return by;
    }

    private int fine(int answer) {
        status = 0;
        changes++;
        return answer;
    }

    private boolean there(int f) {
        return f >= 0 && f < s.sticks.size();
    }

    private static boolean in(int v, int low, int high) {
        return low <= v && v <= high;
    }

    private boolean isOn(int f, int b) {
        return there(f) && in(b, 0, 11) && s.places[f][b] != null;
    }

    private int deep(int f, int b) {
        return Math.min(s.terms[0], s.places[f][b][2]);
    }

    int figure(int sticks) {
        if (!in(sticks, 1, 2)) {
            return refuse(-1);
        }
        if (s.sticks.size() == 6) {
            return refuse(-5);
        }
        s.sticks.add(sticks);
        s.outlines.add(new int[8]);
        return fine(s.sticks.size() - 1);
    }

    int sticks(int f, int sticks) {
        if (!in(sticks, 1, 2)) {
            return refuse(-1);
        }
        return there(f) ? fine(s.sticks.set(f, sticks)) : refuse(-2);
    }

    int terms(int what, int value) {
        int[][] range = {{2, 32}, {0, 16}, {0, 3}, {0, 1}, {0, 6}, {0, 31}, {0, 31}};
        if (!in(what, 0, 6) || !in(value, range[what][0], range[what][1])) {
            return refuse(-1);
        }
        int was = s.terms[what];
        s.terms[what] = value;
        return fine(was);
    }

    int on(int f, int b, int x, int y, int deep) {
        if (!in(b, 0, 11) || !in(x, 0, 31) || !in(y, 0, 15) || !in(deep, 1, 32)) {
            return refuse(-1);
        }
        if (!there(f)) {
            return refuse(-2);
        }
        s.places[f][b] = new int[] {x, y, deep};
        return fine(0);
    }

    int off(int f, int b) {
        if (!in(b, 0, 11)) {
            return refuse(-1);
        }
        if (!there(f)) {
            return refuse(-2);
        }
        int was = s.places[f][b] == null ? 0 : 1;
        s.places[f][b] = null;
        return fine(was);
    }

    int of(int f, int b, int what) {
        if (!there(f) || !in(b, 0, 11) || !in(what, 0, 3)) {
            return -1;
        }
        if (what == 0) {
            return isOn(f, b) ? 1 : 0;
        }
        return !isOn(f, b) ? -1 : what == 3 ? deep(f, b) : s.places[f][b][what - 1];
    }

    int feed(int a, int b, int c, int d, int e) {
        if (tape.size() + 20 > 400) {
            return -1;
        }
        for (int v : new int[] {a, b, c, d, e}) {
            for (int k = 3; k >= 0; k--) {
                tape.add((v >> (8 * k)) & 255);
            }
        }
        return tape.size();
    }

    int end(int n) {
        if (!in(n, 0, tape.size())) {
            return -1;
        }
        tape = new ArrayList<>(tape.subList(0, n));
        return n;
    }

    int row(int f) {
        if (f != -1 && !there(f)) {
            return refuse(-2);
        }
        if (tape.isEmpty()) {
            return refuse(-6);
        }
        int used;
        int cells = 0;
        if (f == -1) {
            s.told = new HashSet<>();
            used = Math.min(64, tape.size() / 4 * 4);
            for (int k = 0; k < used; k++) {
                for (int bit = 0; bit < 8; bit++) {
                    if ((tape.get(k) >> bit & 1) == 1) {
                        s.told.add(k / 4 * 32 + (3 - k % 4) * 8 + bit);
                    }
                }
            }
            cells = s.told.size();
        } else {
            int[] outline = new int[8];
            used = Math.min(8, tape.size());
            for (int k = 0; k < used; k++) {
                outline[k] = tape.get(k);
                cells += Integer.bitCount(outline[k]);
            }
            s.outlines.set(f, outline);
        }
        torn = tape.size() - used;
        tape.clear();
        return fine(cells);
    }

    int outline(int f, int j) {
        return there(f) && in(j, 0, 7) ? s.outlines.get(f)[j] : -1;
    }

    // ---- the text

    private List<Token> tokens;
    private int at;
    private int parts;

    private static List<Token> cut(String text) {
        List<Token> all = new ArrayList<>();
        java.util.regex.Matcher m =
            java.util.regex.Pattern.compile("[a-z]+|[0-9]+|[^ ]", java.util.regex.Pattern.DOTALL).matcher(text);
        while (m.find()) {
            all.add(new Token(m.group(), m.start()));
        }
        all.add(new Token("", text.length()));
        return all;
    }

    private boolean next(String text) {
        return tokens.get(at).text.equals(text) && !text.isEmpty();
    }

    private Fault faultHere() {
        return new Fault(tokens.get(at).place);
    }

    private void must(String text) {
        if (!next(text)) {
            throw faultHere();
        }
        at++;
    }

    private int number(int low, int high) {
        String t = tokens.get(at).text;
        if (!t.matches("[0-9]+")) {
            throw faultHere();
        }
        java.math.BigInteger v = new java.math.BigInteger(t);
        if (v.compareTo(java.math.BigInteger.valueOf(low)) < 0 || v.compareTo(java.math.BigInteger.valueOf(high)) > 0) {
            throw faultHere();
        }
        at++;
        return v.intValue();
    }

    private List<Clause> parse(String text) {
        tokens = cut(text);
        at = 0;
        parts = 0;
        List<Clause> all = new ArrayList<>();
        while (true) {
            if (all.size() == 24) {
                throw faultHere();
            }
            all.add(clause());
            if (tokens.get(at).text.isEmpty()) {
                return all;
            }
            must(";");
        }
    }

    private Clause clause() {
        Clause c = new Clause();
        c.head = tokens.get(at).text;
        if (!Arrays.asList("beat", "pass", "slip", "bars").contains(c.head)) {
            throw faultHere();
        }
        at++;
        if (c.head.equals("beat")) {
            int from = number(0, 11);
            int to = from;
            if (next("to")) {
                at++;
                to = number(from, 11);
            }
            int f = number(0, 5);
            if (next("off")) {
                at++;
                c.move = new int[] {from, to, f};
                return c;
            }
            must("at");
            int x = number(0, 31);
            must(",");
            int y = number(0, 15);
            must("deep");
            c.move = new int[] {from, to, f, x, y, number(1, 32)};
            return c;
        }
        if (!c.head.equals("bars")) {
            c.sum = sum(0);
        }
        if (next("if")) {
            at++;
            c.test = test(0);
        }
        return c;
    }

    private Test test(int depth) {
        Test left = both(depth);
        while (next("or")) {
            at++;
            Test one = left;
            Test two = both(depth);
            left = of -> one.ask(of) || two.ask(of);
        }
        return left;
    }

    private Test both(int depth) {
        Test left = plain(depth);
        while (next("and")) {
            at++;
            Test one = left;
            Test two = plain(depth);
            left = of -> one.ask(of) && two.ask(of);
        }
        return left;
    }

    private Test plain(int depth) {
        if (next("not")) {
            at++;
            Test inner = plain(depth);
            return of -> !inner.ask(of);
        }
        if (next("(")) {
            if (depth == 8) {
                throw faultHere();
            }
            at++;
            Test inner = test(depth + 1);
            must(")");
            return inner;
        }
        Sum one = sum(depth);
        String sign = tokens.get(at).text;
        if (!sign.equals("<") && !sign.equals(">") && !sign.equals("=")) {
            throw faultHere();
        }
        at++;
        Sum two = sum(depth);
        return of -> {
            int order = Long.compare(one.ask(of), two.ask(of));
            return sign.equals("<") ? order < 0 : sign.equals(">") ? order > 0 : order == 0;
        };
    }

    private static long bounded(long v) {
        if (Math.abs(v) > 1_000_000_000L) {
            throw new Broken();
        }
        return v;
    }

    private Sum sum(int depth) {
        Sum left = term(depth);
        while (next("+") || next("-")) {
            int sign = next("+") ? 1 : -1;
            at++;
            Sum one = left;
            Sum two = term(depth);
            left = of -> bounded(one.ask(of) + sign * two.ask(of));
        }
        return left;
    }

    private Sum term(int depth) {
        Sum left = part(depth);
        while (next("*") || next("/")) {
            boolean times = next("*");
            at++;
            Sum one = left;
            Sum two = part(depth);
            left = of -> {
                long a = one.ask(of);
                long b = two.ask(of);
                if (!times && b == 0) {
                    throw new Broken();
                }
                return bounded(times ? a * b : a / b);
            };
        }
        return left;
    }

    private Sum part(int depth) {
        if (next("[")) {
            if (depth == 8) {
                throw faultHere();
            }
            at++;
            Sum inner = sum(depth + 1);
            must("]");
            return inner;
        }
        String t = tokens.get(at).text;
        if (parts == 50) {
            throw faultHere();
        }
        if (Arrays.asList("figure", "beat", "helper", "other", "x", "y", "deep", "sticks").contains(t)) {
            parts++;
            at++;
            return of -> of.get(t);
        }
        int v = number(0, 1000);
        parts++;
        return of -> v;
    }

    int play() {
        StringBuilder text = new StringBuilder();
        for (int b : tape) {
            text.append((char) b);
        }
        tape.clear();
        List<Clause> parsed;
        try {
            parsed = parse(text.toString());
        } catch (Fault f) {
            fault = f.place;
            return refuse(-6);
        }
        fault = -1;
        s.clauses = parsed;
        s.places = new int[6][12][];
        for (Clause c : parsed) {
            if (c.move != null) {
                for (int b = c.move[0]; b <= c.move[1]; b++) {
                    s.places[c.move[2]][b] =
                        c.move.length == 3 ? null : new int[] {c.move[3], c.move[4], c.move[5]};
                }
            }
        }
        return fine(parsed.size());
    }

    private Map<String, Integer> asked(int f, int b, int helper, int other) {
        Map<String, Integer> of = new TreeMap<>();
        of.put("figure", f);
        of.put("beat", b);
        of.put("helper", helper);
        of.put("other", other);
        of.put("x", s.places[f][b][0]);
        of.put("y", s.places[f][b][1]);
        of.put("deep", deep(f, b));
        of.put("sticks", s.sticks.get(f));
        return of;
    }

    private Clause last(String head, Map<String, Integer> of) {
        Clause found = null;
        for (Clause c : s.clauses) {
            if (c.head.equals(head) && c.holds(of)) {
                found = c;
            }
        }
        return found;
    }

    private int told(String head, int most, int without, Map<String, Integer> of) {
        Clause c = last(head, of);
        return c == null ? without : (int) Math.max(0, Math.min(most, c.sum.ask(of)));
    }

    // ---- shadows

    private static Set<Integer> lit(int[] outline, int x, int y, int d, int lamp) {
        Set<Integer> cells = new HashSet<>();
        for (int c = 0; c < 32; c++) {
            for (int r = 0; r < 16; r++) {
                int a = (2 * c + 1) * d / (2 * lamp) - x;
                int b = (2 * r + 1) * d / (2 * lamp) - y;
                if (in(a, 0, 7) && in(b, 0, 7) && (outline[b] >> a & 1) == 1) {
                    cells.add(r * 32 + c);
                }
            }
        }
        return cells;
    }

    private Set<Integer> shadowOf(int f, int b) {
        return isOn(f, b)
            ? lit(s.outlines.get(f), s.places[f][b][0], s.places[f][b][1], deep(f, b), s.terms[0])
            : new HashSet<>();
    }

    private Set<Integer> all(int b) {
        Set<Integer> cells = new HashSet<>();
        for (int f = 0; f < s.sticks.size(); f++) {
            cells.addAll(shadowOf(f, b));
        }
        return cells;
    }

    private static int bits(Set<Integer> cells, int row) {
        int bits = 0;
        for (int cell : cells) {
            if (cell / 32 == row) {
                bits |= 1 << (cell % 32);
            }
        }
        return bits;
    }

    int shadow(int f, int b, int row) {
        if (!in(b, 0, 11) || !in(row, 0, 15)) {
            return 0;
        }
        return bits(f == -1 ? all(b) : shadowOf(f, b), row);
    }

    int seen(int f, int b, int what) {
        if (!isOn(f, b) || !in(what, 0, 2)) {
            return -1;
        }
        if (what == 2) {
            return s.terms[1] * (s.terms[0] - deep(f, b)) * 100 / deep(f, b);
        }
        Set<Integer> own = shadowOf(f, b);
        if (what == 0) {
            return own.size();
        }
        int hidden = 0;
        for (int cell : own) {
            boolean is = false;
            for (int g = 0; g < s.sticks.size(); g++) {
                if (g != f && isOn(g, b) && shadowOf(g, b).contains(cell)) {
                    is |= deep(g, b) < deep(f, b) || (deep(g, b) == deep(f, b) && g < f);
                }
            }
            hidden += is ? 1 : 0;
        }
        return hidden;
    }

    int common(int one, int other, int b) {
        if (!isOn(one, b) || !isOn(other, b)) {
            return -1;
        }
        Set<Integer> cells = shadowOf(one, b);
        cells.retainAll(shadowOf(other, b));
        return cells.size();
    }

    // ---- holding

    private boolean can(int helper, int b, List<Integer> figures) {
        for (int f : figures) {
            if (last("bars", asked(f, b, helper, -1)) != null) {
                return false;
            }
        }
        if (helper == 3) {
            for (int f : figures) {
                if (b > 0 && (!isOn(f, b - 1) || !Arrays.equals(s.places[f][b], s.places[f][b - 1]))) {
                    return false;
                }
            }
            return figures.size() <= s.terms[4];
        }
        int handsLeft = 2;
        int ones = 0;
        for (int f : figures) {
            if (s.sticks.get(f) == 2) {
                handsLeft -= 2;
            } else {
                ones++;
            }
            for (int g : figures) {
                if (Math.abs(s.places[f][b][0] - s.places[g][b][0]) > s.terms[5]
                    || Math.abs(deep(f, b) - deep(g, b)) > s.terms[6]) {
                    return false;
                }
            }
        }
        return handsLeft >= 0 && ones - s.terms[3] <= handsLeft;
    }

    private List<Integer> onAt(int b) {
        List<Integer> all = new ArrayList<>();
        for (int f = 0; f < s.sticks.size(); f++) {
            if (isOn(f, b)) {
                all.add(f);
            }
        }
        return all;
    }

    int holds(int helper, int b, int figures) {
        if (!in(helper, 0, 3) || !in(b, 0, 11)) {
            return -1;
        }
        List<Integer> set = new ArrayList<>();
        for (int f = 0; f < 32; f++) {
            if ((figures >> f & 1) == 1) {
                if (!isOn(f, b)) {
                    return -1;
                }
                set.add(f);
            }
        }
        return can(helper, b, set) ? 1 : 0;
    }

    /** All HOLDINGS of some FIGURES, in order, each as the row of holders by FIGURES. */
    private List<int[]> allHoldings(int b, List<Integer> figures, int helpers) {
        List<int[]> found = new ArrayList<>();
        int n = figures.size();
        for (int code = 0; code < 1 << (2 * n); code++) {
            int[] row = new int[n];
            boolean can = true;
            List<List<Integer>> has = new ArrayList<>();
            for (int h = 0; h < 4; h++) {
                has.add(new ArrayList<>());
            }
            for (int k = 0; k < n; k++) {
                row[k] = code >> (2 * (n - 1 - k)) & 3;
                has.get(row[k]).add(figures.get(k));
                can &= row[k] == 3 || row[k] < helpers;
            }
            for (int h = 0; h < 4 && can; h++) {
                can = has.get(h).isEmpty() || canKept(h, b, has.get(h));
            }
            if (can) {
                found.add(row);
            }
        }
        return found;
    }

    private final Map<String, Boolean> canMemory = new LinkedHashMap<>();

    private boolean canKept(int h, int b, List<Integer> figures) {
        return canMemory.computeIfAbsent(h + "/" + b + "/" + figures, key -> can(h, b, figures));
    }

    int holdings(int b) {
        if (!in(b, 0, 11)) {
            return -1;
        }
        canMemory.clear();
        return allHoldings(b, onAt(b), s.terms[2]).size();
    }

    private long leastCost;
    private long leastWays;
    private List<int[]> first;

    /** Forward over every pair of HOLDINGS; with each the best cost, its count and its earliest rows up to there. */
    private boolean solve() {
        String key = "" + changes;
        if (!key.equals(solvedFor)) {
            solvedFor = key;
            solved = solveAnew();
        }
        return solved;
    }

    private boolean solveAnew() {
        canMemory.clear();
        Map<String, Object[]> ahead = new LinkedHashMap<>();
        ahead.put("", new Object[] {0L, 1L, new ArrayList<int[]>(), new int[0]});
        List<Integer> before = new ArrayList<>();
        for (int b = 0; b < 12; b++) {
            List<Integer> now = onAt(b);
            Map<String, Integer> prices = new TreeMap<>();
            Map<String, Object[]> here = new LinkedHashMap<>();
            for (int[] row : allHoldings(b, now, s.terms[2])) {
                Object[] best = null;
                for (Object[] was : ahead.values()) {
                    long cost = (Long) was[0];
                    int[] from = (int[]) was[3];
                    for (int k = 0; k < now.size(); k++) {
                        int f = now.get(k);
                        int j = before.indexOf(f);
                        if (j >= 0 && from[j] != row[k]) {
                            int had = from[j];
                            int to = row[k];
                            int beat = b;
                            cost += prices.computeIfAbsent(f + "/" + had + "/" + to,
                                key -> told("pass", 9, 1, asked(f, beat, had, to)));
                        }
                    }
                    if (best == null || cost < (Long) best[0]) {
                        best = new Object[] {cost, was[1], was[2], row};
                    } else if (cost == (Long) best[0]) {
                        best[1] = Math.min(1_000_000_000L, (Long) best[1] + (Long) was[1]);
                        if (earlier(rows(was[2]), rows(best[2]))) {
                            best[2] = was[2];
                        }
                    }
                }
                if (best != null) {
                    List<int[]> path = new ArrayList<>(rows(best[2]));
                    path.add(row);
                    best[2] = path;
                    here.put(Arrays.toString(row), best);
                }
            }
            if (here.isEmpty()) {
                return false;
            }
            ahead = here;
            before = now;
        }
        leastCost = Long.MAX_VALUE;
        for (Object[] end : ahead.values()) {
            if ((Long) end[0] < leastCost) {
                leastCost = (Long) end[0];
                leastWays = (Long) end[1];
                first = rows(end[2]);
            } else if ((Long) end[0] == leastCost) {
                leastWays = Math.min(1_000_000_000L, leastWays + (Long) end[1]);
                if (earlier(rows(end[2]), first)) {
                    first = rows(end[2]);
                }
            }
        }
        return true;
    }

    @SuppressWarnings("unchecked")
    private static List<int[]> rows(Object path) {
        return (List<int[]>) path;
    }

    private static boolean earlier(List<int[]> one, List<int[]> other) {
        for (int k = 0; k < one.size(); k++) {
            int order = Arrays.compare(one.get(k), other.get(k));
            if (order != 0) {
                return order < 0;
            }
        }
        return false;
    }

    int least(int what) {
        if (!in(what, 0, 1)) {
            return -1;
        }
        if (!solve()) {
            return what == 0 ? -1 : 0;
        }
        return (int) (what == 0 ? leastCost : leastWays);
    }

    int holder(int f, int b) {
        if (!isOn(f, b) || !solve()) {
            return -1;
        }
        return first.get(b)[onAt(b).indexOf(f)];
    }

    int passed(int f) {
        if (!there(f) || !solve()) {
            return -1;
        }
        int times = 0;
        for (int b = 1; b < 12; b++) {
            if (isOn(f, b - 1) && isOn(f, b)) {
                times += first.get(b)[onAt(b).indexOf(f)] != first.get(b - 1)[onAt(b - 1).indexOf(f)] ? 1 : 0;
            }
        }
        return times;
    }

    int fewest() {
        canMemory.clear();
        for (int h = 0; h <= 3; h++) {
            boolean every = true;
            for (int b = 0; b < 12; b++) {
                every &= !allHoldings(b, onAt(b), h).isEmpty();
            }
            if (every) {
                return h;
            }
        }
        return -1;
    }

    int barred(int what) {
        if (!in(what, 0, 1)) {
            return -1;
        }
        canMemory.clear();
        for (int b = 0; b < 12; b++) {
            if (allHoldings(b, onAt(b), s.terms[2]).isEmpty()) {
                if (what == 0) {
                    return b;
                }
                List<Integer> core = onAt(b);
                for (int f : onAt(b)) {
                    List<Integer> without = new ArrayList<>(core);
                    without.remove((Integer) f);
                    if (allHoldings(b, without, s.terms[2]).isEmpty()) {
                        core = without;
                    }
                }
                int bits = 0;
                for (int f : core) {
                    bits |= 1 << f;
                }
                return bits;
            }
        }
        return -1;
    }

    // ---- made

    private long ways;
    private int bestSize;
    private int bestSet;
    private Map<Integer, int[]> bestPlaces;

    private Map<BitSet, int[]> prints(int f) {
        Map<BitSet, int[]> found = new LinkedHashMap<>();
        for (int d = 1; d <= 8 && d <= s.terms[0]; d++) {
            for (int x = 0; x < 32; x++) {
                for (int y = 0; y < 16; y++) {
                    Set<Integer> cells = lit(s.outlines.get(f), x, y, d, s.terms[0]);
                    if (!cells.isEmpty() && s.told.containsAll(cells)) {
                        BitSet set = new BitSet();
                        cells.forEach(set::set);
                        found.putIfAbsent(set, new int[] {x, y, d});
                    }
                }
            }
        }
        return found;
    }

    private boolean mades(int cast) {
        if (cast < 0 || cast >> s.sticks.size() != 0 || s.told.size() > 64) {
            return false;
        }
        String key = changes + "/" + cast;
        if (key.equals(madeFor)) {
            return true;
        }
        madeFor = key;
        ways = 0;
        bestSize = -1;
        bestSet = 0;
        bestPlaces = new TreeMap<>();
        if (s.told.isEmpty()) {
            ways = 1;
            bestSize = 0;
            return true;
        }
        Map<Integer, Map<BitSet, int[]>> made = new TreeMap<>();
        for (int f = 0; f < 6; f++) {
            if ((cast >> f & 1) == 1) {
                made.put(f, prints(f));
            }
        }
        for (int size = 1; size <= 3; size++) {
            for (int set = 1; set < 64; set++) {
                if ((set & ~cast) == 0 && Integer.bitCount(set) == size) {
                    List<Integer> figures = new ArrayList<>();
                    for (int f = 0; f < 6; f++) {
                        if ((set >> f & 1) == 1) {
                            figures.add(f);
                        }
                    }
                    pick(set, figures, new ArrayList<>(), made);
                }
            }
        }
        return true;
    }

    private void pick(int set, List<Integer> figures, List<BitSet> chosen, Map<Integer, Map<BitSet, int[]>> made) {
        if (chosen.size() < figures.size()) {
            for (BitSet one : made.get(figures.get(chosen.size())).keySet()) {
                chosen.add(one);
                pick(set, figures, chosen, made);
                chosen.remove(chosen.size() - 1);
            }
            return;
        }
        BitSet union = new BitSet();
        for (BitSet one : chosen) {
            union.or(one);
        }
        if (union.cardinality() != s.told.size()) {
            return;
        }
        for (int k = 0; k < chosen.size(); k++) {
            BitSet own = (BitSet) chosen.get(k).clone();
            for (int j = 0; j < chosen.size(); j++) {
                if (j != k) {
                    own.andNot(chosen.get(j));
                }
            }
            if (own.isEmpty()) {
                return;
            }
        }
        ways++;
        if (bestSize == -1) {
            bestSize = chosen.size();
            bestSet = set;
            for (int k = 0; k < chosen.size(); k++) {
                bestPlaces.put(figures.get(k), made.get(figures.get(k)).get(chosen.get(k)));
            }
        }
    }

    int made(int cast, int what) {
        if (!in(what, 0, 1) || !mades(cast)) {
            return -1;
        }
        return what == 0 ? (int) Math.min(1_000_000_000L, ways) : bestSize;
    }

    int who(int cast, int f, int what) {
        if (!in(what, 0, 3) || !there(f) || !mades(cast) || bestSize == -1) {
            return -1;
        }
        boolean within = (bestSet >> f & 1) == 1;
        return what == 0 ? (within ? 1 : 0) : within ? bestPlaces.get(f)[what - 1] : -1;
    }

    int sheet(int row) {
        return in(row, 0, 15) ? bits(s.told, row) : 0;
    }

    int copy(int b) {
        if (!in(b, 0, 11)) {
            return refuse(-1);
        }
        s.told = all(b);
        return fine(s.told.size());
    }

    int show(int seed) {
        if (!in(seed, 0, 1_000_000)) {
            return refuse(-1);
        }
        if (!solve()) {
            return refuse(-3);
        }
        slips = new int[12];
        long draw = seed;
        int all = 0;
        for (int b = 0; b < 12; b++) {
            for (int k = 0; k < onAt(b).size(); k++) {
                int f = onAt(b).get(k);
                draw = (draw * 1103 + 12345) % 1_000_003;
                if (draw % 100 < told("slip", 100, 0, asked(f, b, first.get(b)[k], -1))) {
                    slips[b] |= 1 << f;
                    all++;
                }
            }
        }
        return fine(all);
    }

    int slipped(int b) {
        return slips == null || !in(b, 0, 11) ? -1 : slips[b];
    }

    int image(int k) {
        if (!in(k, 0, 1)) {
            return refuse(-1);
        }
        images[k] = s.copy();
        return fine(0);
    }

    int back(int k) {
        if (!in(k, 0, 1)) {
            return refuse(-1);
        }
        if (images[k] == null) {
            return refuse(-2);
        }
        s = images[k].copy();
        return fine(0);
    }

    int count(int what) {
        int sum = 0;
        int beats = 0;
        int most = 0;
        for (int b = 0; b < 12; b++) {
            sum += onAt(b).size();
            beats += onAt(b).isEmpty() ? 0 : 1;
            most = Math.max(most, onAt(b).size());
        }
        int[] first = {s.sticks.size(), s.clauses.size(), sum, beats, most, s.told.size(), tape.size()};
        int[] codes = {-1, -2, -3, -5, -6};
        return in(what, 0, 6) ? first[what] : in(what, 7, 11) ? refusals.getOrDefault(codes[what - 7], 0) : -1;
    }
}
