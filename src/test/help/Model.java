import java.util.ArrayList;
import java.util.Arrays;
import java.util.HashMap;
import java.util.HashSet;
import java.util.List;
import java.util.Map;
import java.util.Set;
import java.util.regex.Matcher;
import java.util.regex.Pattern;

/**
 * A second program of the whole document, plain and written another way: states kept whole instead
 * of deeds undone, a tree that is walked, tokens by patterns.
 */
final class Model {
    record Case(int low, int high, int aim, int weight) {
        boolean owns(int x) {
            return low <= x && x <= high;
        }

        boolean meets(int from, int to) {
            return Math.max(low, from) <= Math.min(high, to);
        }
    }

    record State(List<Case> cases, int rest) { }

    static final class Node {
        int first, last, sort, steps, depth, cost;
        int border;
        Node ahead, behind;

        void leaves(int depth, List<Node> into) {
            this.depth = depth;
            if (ahead == null) {
                into.add(this);
            } else {
                ahead.leaves(depth + 1, into);
                behind.leaves(depth + 1, into);
            }
        }
    }

    final int[][] rows = new int[6][];
    final byte[][] texts = new byte[4][];
    /** The state at first and behind each deed. */
    List<State> states = new ArrayList<>(List.of(new State(List.of(), 0)));
    final List<List<State>> kept = new ArrayList<>(Arrays.asList(null, null, null));
    int asked, finding;
    long mask0;
    final int[] findings = new int[6];

    int found(int f) {
        finding = f;
        findings[f]++;
        return -3;
    }

    State state() {
        return states.get(states.size() - 1);
    }

    List<Case> cases() {
        return state().cases();
    }

    int deeds() {
        return states.size() - 1;
    }

    int row(int r, int n) {
        if (r < 0 || r > 5 || n > 40) return -1;
        if (n < 0) return found(5);
        rows[r] = new int[n];
        return n;
    }

    int place(int r, int i) {
        if (r < 0 || r > 5) return -1;
        if (rows[r] == null) return found(1);
        if (i < 0 || i >= rows[r].length) return found(2);
        return 1;
    }

    int lay(int r, int i, int v) {
        int answer = at(r, i);
        if (answer == 1) rows[r][i] = v;
        return answer;
    }

    int at(int r, int i) {
        int answer = place(r, i);
        if (answer == 1) asked = rows[r][i];
        return answer;
    }

    int tear(int r) {
        if (r < 0 || r > 5) return -1;
        if (rows[r] == null) return found(1);
        rows[r] = null;
        return 1;
    }

    int copy(int r, int i, int to, int j, int n) {
        if (r < 0 || r > 5 || to < 0 || to > 5) return -1;
        if (n < 0) return found(5);
        if (rows[r] == null || rows[to] == null) return found(1);
        if (i < 0 || j < 0 || (long) i + n > rows[r].length || (long) j + n > rows[to].length) return found(2);
        int[] taken = Arrays.copyOfRange(rows[r], i, i + n);
        for (int p = 0; p < n; p++) rows[to][j + p] = taken[p];
        return 1;
    }

    int mean(int r) {
        if (r < 0 || r > 5) return -1;
        if (rows[r] == null) return found(1);
        if (rows[r].length == 0) return found(4);
        asked = (int) (Arrays.stream(rows[r]).asLongStream().sum() / rows[r].length);
        return 1;
    }

    int text(int t, int n) {
        if (t < 0 || t > 3 || n > 120) return -1;
        if (n < 0) return found(5);
        texts[t] = new byte[n];
        Arrays.fill(texts[t], (byte) 32);
        return n;
    }

    int put(int t, int i, int v) {
        if (t < 0 || t > 3) return -1;
        if (texts[t] == null) return found(1);
        if (i < 0 || i >= texts[t].length) return found(2);
        int was = texts[t][i];
        texts[t][i] = (byte) v;
        return was + 1000;
    }

    private static final Pattern TOKEN = Pattern.compile(" *(?:([a-z]+)|(-?[0-9]+)|(;)|(\\z)|(.))", Pattern.DOTALL);

    /** What a TEXT tells; a State if all is well, else the FAULT as an Integer. */
    Object parse(byte[] bytes) {
        StringBuilder chars = new StringBuilder();
        for (byte b : bytes) chars.append((char) (b & 255));
        Matcher m = TOKEN.matcher(chars);
        List<String> tokens = new ArrayList<>();
        List<Integer> starts = new ArrayList<>();
        int from = 0;
        while (m.find(from)) {
            for (int g = 1; g <= 5; g++) {
                if (m.group(g) != null) {
                    tokens.add(g == 4 ? "end" : g == 5 ? "?" : (g == 1 ? "w" : g == 2 ? "n" : "") + m.group(g));
                    starts.add(m.start(g));
                }
            }
            from = m.end();
            if (m.group(4) != null) break;
        }
        List<Case> cases = new ArrayList<>();
        int rest = -1;
        int p = 0;
        while (!tokens.get(p).equals("end")) {
            String word = tokens.get(p);
            if (word.equals("wrest")) {
                if (rest >= 0) return starts.get(p);
                if (!number(tokens.get(p + 1), 0, 9)) return starts.get(p + 1);
                if (!tokens.get(p + 2).equals(";")) return starts.get(p + 2);
                rest = (int) value(tokens.get(p + 1));
                p += 3;
                continue;
            }
            if (!Set.of("wcase", "wrange", "wname").contains(word) || cases.size() == 12) return starts.get(p);
            p++;
            long low, high;
            if (word.equals("wname")) {
                String name = tokens.get(p);
                if (!name.startsWith("w") || name.length() > 7) return starts.get(p);
                low = high = name.substring(1).hashCode();
            } else {
                if (!number(tokens.get(p), Integer.MIN_VALUE, Integer.MAX_VALUE)) return starts.get(p);
                low = high = value(tokens.get(p));
            }
            if (meets(cases, low, low)) return starts.get(p);
            p++;
            if (word.equals("wrange")) {
                if (!number(tokens.get(p), low, Integer.MAX_VALUE)) return starts.get(p);
                high = value(tokens.get(p));
                if (meets(cases, low, high)) return starts.get(p);
                p++;
            }
            if (!number(tokens.get(p), 0, 7)) return starts.get(p);
            if (!number(tokens.get(p + 1), 0, 9)) return starts.get(p + 1);
            if (!tokens.get(p + 2).equals(";")) return starts.get(p + 2);
            cases.add(new Case((int) low, (int) high, (int) value(tokens.get(p)), (int) value(tokens.get(p + 1))));
            p += 3;
        }
        return new State(sorted(cases), Math.max(rest, 0));
    }

    static boolean number(String token, long least, long most) {
        if (!token.startsWith("n")) return false;
        var v = new java.math.BigInteger(token.substring(1));
        return v.compareTo(java.math.BigInteger.valueOf(least)) >= 0 && v.compareTo(java.math.BigInteger.valueOf(most)) <= 0;
    }

    static long value(String token) {
        return Long.parseLong(token.substring(1));
    }

    static boolean meets(List<Case> cases, long low, long high) {
        return cases.stream().anyMatch(c -> c.meets((int) low, (int) high));
    }

    static List<Case> sorted(List<Case> cases) {
        List<Case> s = new ArrayList<>(cases);
        s.sort((a, b) -> Integer.compare(a.low(), b.low()));
        return s;
    }

    int fault(int t) {
        if (t < 0 || t > 3) return -1;
        if (texts[t] == null) return found(1);
        return parse(texts[t]) instanceof Integer place ? place : -9;
    }

    int program(int t) {
        if (t < 0 || t > 3) return -1;
        if (texts[t] == null) return found(1);
        if (!(parse(texts[t]) instanceof State s)) return -4;
        states = new ArrayList<>(List.of(s));
        for (int k = 0; k < 3; k++) kept.set(k, null);
        return cases().size();
    }

    int write(int t) {
        if (t < 0 || t > 3) return -1;
        StringBuilder s = new StringBuilder();
        for (Case c : cases()) {
            s.append(c.low() == c.high() ? "case " + c.low() : "range " + c.low() + " " + c.high());
            s.append(" " + c.aim() + " " + c.weight() + ";");
        }
        if (state().rest() != 0) s.append("rest " + state().rest() + ";");
        if (s.length() > 120) return -6;
        texts[t] = new byte[s.length()];
        for (int i = 0; i < s.length(); i++) texts[t][i] = (byte) s.charAt(i);
        return s.length();
    }

    int hash(int r) {
        if (r < 0 || r > 5) return -1;
        if (rows[r] == null) return found(1);
        if (rows[r].length < 1 || rows[r].length > 6) return found(5);
        StringBuilder s = new StringBuilder();
        for (int v : rows[r]) {
            if (v < 0 || v > 25) return found(3);
            s.append((char) ('a' + v));
        }
        asked = s.toString().hashCode();
        return 1;
    }

    int toldOf(int i, int what) {
        Case c = cases().get(i);
        return new int[] {c.low(), c.high(), c.aim(), c.weight()}[what];
    }

    boolean isCase(int i) {
        return i >= 0 && i < cases().size();
    }

    int told(int i, int what) {
        if (!isCase(i) || what < 0 || what > 3) return -1;
        asked = toldOf(i, what);
        return 1;
    }

    void did(List<Case> cases) {
        states.add(new State(sorted(cases), state().rest()));
    }

    List<Case> with(int i, Case c) {
        List<Case> next = new ArrayList<>(cases());
        if (i >= 0) next.remove(i);
        if (c != null) next.add(c);
        return next;
    }

    int add(int low, int high, int aim, int weight) {
        if (low > high || aim < 0 || aim > 7 || weight < 0 || weight > 9) return -1;
        if (meets(cases(), low, high)) return -4;
        if (cases().size() == 12 || deeds() == 40) return -2;
        Case c = new Case(low, high, aim, weight);
        did(with(-1, c));
        return cases().indexOf(c);
    }

    int cut(int i) {
        if (!isCase(i)) return -1;
        if (deeds() == 40) return -2;
        did(with(i, null));
        return cases().size();
    }

    int aim(int i, int aim) {
        if (!isCase(i) || aim < 0 || aim > 7) return -1;
        Case c = cases().get(i);
        if (c.aim() == aim) return -4;
        if (deeds() == 40) return -2;
        did(with(i, new Case(c.low(), c.high(), aim, c.weight())));
        return c.aim();
    }

    int weigh(int i, int weight) {
        if (!isCase(i) || weight < 0 || weight > 9) return -1;
        Case c = cases().get(i);
        if (c.weight() == weight) return -4;
        if (deeds() == 40) return -2;
        did(with(i, new Case(c.low(), c.high(), c.aim(), weight)));
        return c.weight();
    }

    int undo(int n) {
        if (n < 0 || n > deeds()) return -1;
        int undone = deeds() - n;
        states = new ArrayList<>(states.subList(0, n + 1));
        return undone;
    }

    int keep(int k) {
        if (k < 0 || k > 2) return -1;
        kept.set(k, new ArrayList<>(states));
        return deeds();
    }

    int on(int k) {
        if (k < 0 || k > 2) return -1;
        if (kept.get(k) == null) return found(1);
        states = new ArrayList<>(kept.get(k));
        return deeds();
    }

    int owner(int x) {
        for (int i = 0; i < cases().size(); i++) {
            if (cases().get(i).owns(x)) return i;
        }
        return -1;
    }

    int reach(int x) {
        int i = owner(x);
        if (i < 0) return -9;
        asked = i;
        return cases().get(i).aim();
    }

    static Node best(List<Case> cs, int i, int j, Set<Integer> sorts, Map<Integer, Node> known) {
        Node old = known.get(i * 100 + j);
        if (old != null) return old;
        int weight = cs.subList(i, j + 1).stream().mapToInt(Case::weight).sum();
        Node best = null;
        long span = (long) cs.get(j).high() - cs.get(i).low() + 1;
        long own = cs.subList(i, j + 1).stream().mapToLong(c -> (long) c.high() - c.low() + 1).sum();
        long aims = cs.subList(i, j + 1).stream().map(Case::aim).distinct().count();
        int[] order = {4, 1, 2, 3};
        boolean[] can = {i == j && span == 1, i == j, span <= 64 && span <= 4 * own, span <= 32 && aims <= 2};
        int[] steps = {1, 2, 3, 1 + (int) aims};
        for (int o = 0; o < 4; o++) {
            if (can[o] && sorts.contains(order[o]) && (best == null || steps[o] < best.steps)) {
                best = new Node();
                best.first = i;
                best.last = j;
                best.sort = order[o];
                best.steps = steps[o];
                best.cost = steps[o] * weight;
            }
        }
        for (int m = i + 1; m <= j; m++) {
            Node ahead = best(cs, i, m - 1, sorts, known);
            Node behind = best(cs, m, j, sorts, known);
            int cost = weight + ahead.cost + behind.cost;
            if (best == null || cost < best.cost) {
                best = new Node();
                best.cost = cost;
                best.border = cs.get(m).low();
                best.ahead = ahead;
                best.behind = behind;
            }
        }
        known.put(i * 100 + j, best);
        return best;
    }

    static Node tree(List<Case> cs, Integer... sorts) {
        return cs.isEmpty() ? null : best(cs, 0, cs.size() - 1, new HashSet<>(List.of(sorts)), new HashMap<>());
    }

    static List<Node> parts(Node tree) {
        List<Node> parts = new ArrayList<>();
        if (tree != null) tree.leaves(0, parts);
        return parts;
    }

    private State plannedFor;
    private Node planned;
    private List<Node> plannedParts;

    Node tree() {
        if (plannedFor != state()) {
            plannedFor = state();
            planned = tree(cases(), 1, 2, 3, 4);
            plannedParts = parts(planned);
        }
        return planned;
    }

    List<Node> parts() {
        tree();
        return plannedParts;
    }

    /** {AIM or NONE, STEPS} */
    int[] walk(int x) {
        Node n = tree();
        if (n == null) return new int[] {-9, 0};
        int steps = 0;
        while (n.ahead != null) {
            steps++;
            n = x < n.border ? n.ahead : n.behind;
        }
        for (int i = n.first; i <= n.last; i++) {
            if (cases().get(i).owns(x)) return new int[] {cases().get(i).aim(), steps + n.steps};
        }
        return new int[] {-9, steps + n.steps};
    }

    int run(int x) {
        int[] w = walk(x);
        asked = w[1];
        return w[0];
    }

    int cost() {
        return tree() == null ? 0 : tree().cost;
    }

    boolean isPart(int k) {
        return k >= 0 && k < parts().size();
    }

    long span(Node n) {
        return (long) cases().get(n.last).high() - cases().get(n.first).low() + 1;
    }

    int partOf(int k, int what) {
        Node n = parts().get(k);
        long span = span(n);
        return new int[] {n.sort, n.first, n.last, n.depth, n.steps, span > Integer.MAX_VALUE ? -1 : (int) span}[what];
    }

    int part(int k, int what) {
        if (!isPart(k) || what < 0 || what > 5) return -1;
        asked = partOf(k, what);
        return 1;
    }

    int aimAt(long x) {
        int i = x > Integer.MAX_VALUE ? -1 : owner((int) x);
        return i < 0 ? 8 : cases().get(i).aim();
    }

    int mark(int k, int sort) {
        if (!isPart(k) || sort < 1 || sort > 4) return -1;
        Node n = parts().get(k);
        Case first = cases().get(n.first);
        if (sort == 1 && (n.sort == 1 || n.sort == 4)) asked = first.low();
        else if (sort != n.sort) return found(3);
        else if (sort == 4) asked = first.aim();
        else if (sort == 3) asked = n.steps - 1;
        else {
            asked = 0;
            for (int b = 0; b < span(n); b++) if (aimAt((long) first.low() + b) == 8) asked++;
        }
        return 1;
    }

    int jump(int k, int i) {
        if (!isPart(k)) return -1;
        Node n = parts().get(k);
        if (n.sort != 2) return found(3);
        if (i < 0 || i >= span(n)) return found(2);
        asked = aimAt((long) cases().get(n.first).low() + i);
        return 1;
    }

    int mask(int k, int aim) {
        if (!isPart(k) || aim < 0 || aim > 7) return -1;
        Node n = parts().get(k);
        if (n.sort != 3) return found(3);
        mask0 = 0;
        for (int b = 0; b < span(n); b++) {
            if (aimAt((long) cases().get(n.first).low() + b) == aim) mask0 += Math.round(Math.pow(2, b));
        }
        return 1;
    }

    int only(int sort) {
        if (sort < 1 || sort > 3) return -1;
        Node t = sort == 1 ? tree(cases(), 1, 4) : tree(cases(), 1, 4, sort);
        return t == null ? 0 : t.cost;
    }

    int chain() {
        int all = 0;
        for (int i = 0; i < cases().size(); i++) {
            int steps = toldOf(i, 0) == toldOf(i, 1) ? 1 : 2;
            for (int j = i; j < cases().size(); j++) all += steps * toldOf(j, 3);
            all += steps * state().rest();
        }
        return all;
    }

    int worst() {
        if (cases().isEmpty()) return -4;
        int worst = -1;
        for (int i = 0; i < cases().size(); i++) {
            int steps = walk(cases().get(i).low())[1];
            if (worst < 0 || steps > asked) {
                worst = i;
                asked = steps;
            }
        }
        return worst;
    }

    int swing(int i) {
        if (!isCase(i)) return -1;
        Case c = cases().get(i);
        for (int w = 0; w <= 9; w++) {
            if (w == c.weight()) continue;
            List<Case> others = sorted(with(i, new Case(c.low(), c.high(), c.aim(), w)));
            List<Node> then = parts(tree(others, 1, 2, 3, 4));
            if (!names(then).equals(names(parts()))) {
                asked = then.size();
                return w;
            }
        }
        return -9;
    }

    static String names(List<Node> parts) {
        StringBuilder s = new StringBuilder();
        for (Node n : parts) s.append(n.sort + ":" + n.first + "-" + n.last + " ");
        return s.toString();
    }

    long covered(int low, int high) {
        if (low > high) return -1;
        long all = 0;
        for (Case c : cases()) {
            all += Math.max(0L, Math.min((long) high, c.high()) - Math.max((long) low, c.low()) + 1);
        }
        return all;
    }

    int lots(int n, int seed) {
        if (n < 1 || n > 20 || seed < 1 || seed > 2147483646) return -1;
        if (deeds() + n > 40) return -2;
        long z = seed;
        for (int d = 0; d < n; d++) {
            z = z * 48271L % 2147483647L;
            if (z % 4 == 0) {
                did(with(cases().isEmpty() ? -1 : (int) (z / 4 % cases().size()), null));
            } else {
                int low = (int) (z / 4 % 48) - 24;
                int high = low + (int) (z / 256 % 3);
                boolean can = cases().size() < 12 && !meets(cases(), low, high);
                did(with(-1, can ? new Case(low, high, (int) (z / 16 % 8), (int) (z / 128 % 10)) : null));
            }
        }
        return cases().size();
    }

    int count(int what) {
        switch (what) {
            case 0: return cases().size();
            case 1: return parts().size();
            case 2: return comparisons(tree());
            case 3: return cases().stream().mapToInt(Case::weight).sum() + state().rest();
            case 4: return (int) parts().stream().filter(n -> n.sort == 1 || n.sort == 4).count();
            case 5: return (int) parts().stream().filter(n -> n.sort == 2).count();
            case 6: return (int) parts().stream().filter(n -> n.sort == 3).count();
            case 7: return state().rest();
            case 8: return deeds();
            case 9: return (int) Arrays.stream(rows).filter(r -> r != null).count();
            case 10: return (int) Arrays.stream(texts).filter(t -> t != null).count();
            case 11: return (int) kept.stream().filter(s -> s != null).count();
            default: return -1;
        }
    }

    static int comparisons(Node n) {
        return n == null || n.ahead == null ? 0 : 1 + comparisons(n.ahead) + comparisons(n.behind);
    }

    int findings(int f) {
        return f < 1 || f > 5 ? -1 : findings[f];
    }

    long digest() {
        List<Long> all = new ArrayList<>();
        for (int w = 0; w < 12; w++) all.add((long) count(w));
        for (int i = 0; i < cases().size(); i++) for (int w = 0; w < 4; w++) all.add((long) toldOf(i, w));
        for (int k = 0; k < parts().size(); k++) for (int w = 0; w < 5; w++) all.add((long) partOf(k, w));
        for (List<State> s : kept) all.add(s == null ? -1L : s.size() - 1L);
        for (int[] r : rows) {
            all.add(r == null ? -1L : r.length);
            if (r != null) for (int v : r) all.add((long) v);
        }
        for (byte[] t : texts) {
            all.add(t == null ? -1L : t.length);
            if (t != null) for (byte v : t) all.add((long) v);
        }
        long h = 17;
        for (long v : all) h = 31 * h + v;
        return h;
    }
}
