import java.util.Random;

/**
 * Runs of calls by lots (of fixed seeds), each answer beside that of a second program:
 * src/test/help/Model.java.
 */
public final class AgainstModel {
    private static final int RUNS = 9000;
    /** An object answers as promised for so many calls; the last seven ask for findings(). */
    private static final int CALLS = 512 - 7;
    private static final int CALLS_TO_COMPARE = 5, CALLS_OF_A_TURN = 2 * CALLS_TO_COMPARE;
    private static final int CALLS_OF_WORDS = 120 + 3 * CALLS_TO_COMPARE;

    private static int wrong = 0;

    private final Random lot;
    private final CaseCutter x = new CaseCutter();
    private final Model m = new Model();
    private final int run;
    private int used = 0;
    private final StringBuilder calls = new StringBuilder();

    private AgainstModel(int run) {
        this.run = run;
        this.lot = new Random(run);
    }

    private void due(String call, long got, long want) {
        if (got != want) {
            wrong++;
            if (wrong < 20) {
                System.out.println("run " + run + ": " + calls + call + " answered " + got + ", due is " + want);
            }
        }
    }

    private void both(String call, long got, long want) {
        due(call, got, want);
        due(call + " asked()", x.asked(), m.asked);
        due(call + " mask0()", x.mask0(), m.mask0);
        due(call + " finding()", x.finding(), m.finding);
        due(call + " digest()", x.digest(), m.digest());
        calls.append(call).append("; ");
        used += CALLS_TO_COMPARE;
    }

    /** Mostly 0 .. n - 1, now and then beside them or far off. */
    private int near(int n) {
        int way = lot.nextInt(24);
        if (way == 0) return -1;
        if (way == 1) return n;
        if (way == 2) return lot.nextBoolean() ? Integer.MIN_VALUE : Integer.MAX_VALUE;
        return lot.nextInt(Math.max(n, 1));
    }

    private int selector() {
        int way = lot.nextInt(16);
        if (way == 0) return Integer.MIN_VALUE + lot.nextInt(3);
        if (way == 1) return Integer.MAX_VALUE - lot.nextInt(3);
        if (way == 2) return lot.nextInt();
        if (way == 3) return "abz".substring(lot.nextInt(3)).hashCode();
        if (way < 8 && !m.cases().isEmpty()) {
            Model.Case c = m.cases().get(lot.nextInt(m.cases().size()));
            return (lot.nextBoolean() ? c.low() : c.high()) + lot.nextInt(3) - 1;
        }
        return lot.nextInt(90) - 45;
    }

    private String words() {
        StringBuilder s = new StringBuilder();
        int n = lot.nextInt(7);
        for (int i = 0; i < n; i++) {
            int low = selector();
            switch (lot.nextInt(8)) {
                case 0: s.append("rest " + near(10)); break;
                case 1: s.append("name " + "abcdefg".substring(lot.nextInt(7)) + " " + near(8) + " " + near(10)); break;
                case 2: case 3: s.append("range " + low + " " + (low + lot.nextInt(5)) + " " + near(8) + " " + near(10)); break;
                default: s.append("case " + low + " " + lot.nextInt(8) + " " + lot.nextInt(10)); break;
            }
            s.append(lot.nextInt(20) == 0 ? " " : lot.nextBoolean() ? ";" : " ; ");
        }
        String odd = "; -09azc+\nA" + (char) 200;
        for (int i = lot.nextInt(6) - 3; i > 0 && s.length() > 0; i--) {
            int p = lot.nextInt(s.length());
            switch (lot.nextInt(3)) {
                case 0: s.deleteCharAt(p); break;
                case 1: s.insert(p, odd.charAt(lot.nextInt(odd.length()))); break;
                default: s.setCharAt(p, odd.charAt(lot.nextInt(odd.length()))); break;
            }
        }
        if (s.length() > 120) s.setLength(120);
        return s.toString();
    }

    private void typeWords() {
        String s = words();
        int t = lot.nextInt(4);
        both("text(" + t + ", " + s.length() + ")", x.text(t, s.length()), m.text(t, s.length()));
        for (int i = 0; i < s.length(); i++) {
            if (s.charAt(i) != ' ') {
                due("put", x.put(t, i, s.charAt(i)), m.put(t, i, s.charAt(i)));
                used++;
            }
        }
        calls.append("'").append(s).append("'; ");
        both("fault(" + t + ")", x.fault(t), m.fault(t));
        if (lot.nextInt(3) > 0) both("program(" + t + ")", x.program(t), m.program(t));
    }

    private void callOnRows() {
        int r = near(6), i = near(6), v = lot.nextInt(5) == 0 ? lot.nextInt() : near(26), to = near(6), j = near(5), n = near(5);
        switch (lot.nextInt(11)) {
            case 0: case 1: n = lot.nextInt(6) == 0 ? near(41) : near(8); both("row(" + r + ", " + n + ")", x.row(r, n), m.row(r, n)); break;
            case 2: case 3: both("lay(" + r + ", " + i + ", " + v + ")", x.lay(r, i, v), m.lay(r, i, v)); break;
            case 4: both("at(" + r + ", " + i + ")", x.at(r, i), m.at(r, i)); break;
            case 5: if (lot.nextInt(4) == 0) both("tear(" + r + ")", x.tear(r), m.tear(r)); break;
            case 6: both("copy(" + r + ", " + i + ", " + to + ", " + j + ", " + n + ")", x.copy(r, i, to, j, n), m.copy(r, i, to, j, n)); break;
            case 7: both("mean(" + r + ")", x.mean(r), m.mean(r)); break;
            case 8: both("hash(" + r + ")", x.hash(r), m.hash(r)); break;
            case 9: n = near(121); both("text(" + to + ", " + n + ")", x.text(to, n), m.text(to, n)); break;
            default: r = near(4); both("put(" + r + ", " + i + ", " + v + ")", x.put(r, i, v), m.put(r, i, v)); break;
        }
    }

    private void callOnDeeds() {
        int i = near(m.cases().size()), aim = near(8), weight = near(10), low = selector(), k = near(3), n = near(m.deeds() + 1);
        int high = lot.nextInt(30) == 0 ? selector() : lot.nextBoolean() ? low : low + lot.nextInt(6);
        switch (lot.nextInt(16)) {
            case 0: both("cut(" + i + ")", x.cut(i), m.cut(i)); break;
            case 1: case 2: both("aim(" + i + ", " + aim + ")", x.aim(i, aim), m.aim(i, aim)); break;
            case 3: case 4: both("weigh(" + i + ", " + weight + ")", x.weigh(i, weight), m.weigh(i, weight)); break;
            case 5: if (lot.nextInt(2) == 0) both("undo(" + n + ")", x.undo(n), m.undo(n)); break;
            case 6: both("keep(" + k + ")", x.keep(k), m.keep(k)); break;
            case 7: both("on(" + k + ")", x.on(k), m.on(k)); break;
            case 8: n = near(21); int seed = lot.nextInt(); both("lots(" + n + ", " + seed + ")", x.lots(n, seed), m.lots(n, seed)); break;
            case 9: both("write(" + (i = near(4)) + ")", x.write(i), m.write(i)); both("fault(" + i + ")", x.fault(i), m.fault(i)); break;
            default: aim = lot.nextBoolean() ? lot.nextInt(2) : aim;
                both("add(" + low + ", " + high + ", " + aim + ", " + weight + ")", x.add(low, high, aim, weight), m.add(low, high, aim, weight));
                break;
        }
    }

    private void callOnPlan() {
        int k = near(m.parts().size()), i = near(m.cases().size()), at = near(64), aim = near(8), s = selector(), t = selector();
        switch (lot.nextInt(16)) {
            case 0: both("reach(" + s + ")", x.reach(s), m.reach(s)); break;
            case 1: case 2: both("run(" + s + ")", x.run(s), m.run(s)); break;
            case 3: both("cost()", x.cost(), m.cost()); break;
            case 4: both("part(" + k + ", " + (i = near(6)) + ")", x.part(k, i), m.part(k, i)); break;
            case 5: both("mark(" + k + ", " + (i = near(5)) + ")", x.mark(k, i), m.mark(k, i)); break;
            case 6: case 7: both("jump(" + k + ", " + at + ")", x.jump(k, at), m.jump(k, at)); break;
            case 8: case 9: aim = m.cases().isEmpty() || aim > 5 ? aim : m.cases().get(lot.nextInt(m.cases().size())).aim();
                both("mask(" + k + ", " + aim + ")", x.mask(k, aim), m.mask(k, aim)); break;
            case 10: both("only(" + (i = near(4)) + ")", x.only(i), m.only(i)); break;
            case 11: both("chain()", x.chain(), m.chain()); break;
            case 12: both("worst()", x.worst(), m.worst()); break;
            case 13: both("swing(" + i + ")", x.swing(i), m.swing(i)); break;
            case 14: both("covered(" + s + ", " + t + ")", x.covered(s, t), m.covered(s, t)); break;
            default: both("told(" + i + ", " + (at = near(4)) + ")", x.told(i, at), m.told(i, at));
                both("count(" + at + ")", x.count(at), m.count(at)); break;
        }
    }

    private void go() {
        while (used + CALLS_OF_A_TURN <= CALLS && wrong == 0) {
            int way = lot.nextInt(20);
            if (way == 0 && used + CALLS_OF_WORDS <= CALLS) typeWords();
            else if (way < 4) callOnRows();
            else if (way < 11) callOnDeeds();
            else callOnPlan();
        }
        for (int f = 0; f < 7; f++) {
            due("findings(" + f + ")", x.findings(f), m.findings(f));
        }
    }

    public static void main(String[] args) {
        for (int run = 0; run < RUNS && wrong == 0; run++) {
            new AgainstModel(run).go();
        }
        System.out.println(wrong == 0 ? "all answers are those of the model" : wrong + " answers are not those of the model");
        if (wrong != 0) {
            System.exit(1);
        }
    }
}
