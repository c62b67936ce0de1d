import java.util.Random;

/**
 * PROGRAMS by lots (of fixed seeds), thin, dense, of few AIMS and of many, of light CASES and of
 * heavy ones, so that all SORTS of PARTS come beside one another; all that is asked of THE PLAN,
 * beside the second program.
 */
public final class PlansByLots {
    private static final int PROGRAMS = 4000, CALLS_OF_AN_OBJECT = 512;
    private static final int[] GAPS = {0, 0, 1, 2, 3, 3, 4, 7, 8, 9, 10, 12, 16, 21, 30, 31, 32, 33, 60, 64, 500};
    private static final int[] LENGTHS = {1, 1, 1, 1, 1, 2, 3, 5, 8, 16, 31, 64, 200};

    private static int wrong = 0, looked = 0;

    private final CaseCutter x = new CaseCutter();
    private final Model m = new Model();
    private final Random lot;
    private final StringBuilder made = new StringBuilder();
    private int used = 0;

    private PlansByLots(int seed) {
        lot = new Random(seed);
    }

    private void due(String call, long got, long want) {
        looked++;
        used++;
        if (got != want) {
            wrong++;
            if (wrong < 20) {
                System.out.println("behind " + made + call + " answered " + got + ", due is " + want);
            }
        }
    }

    private void told(String call, long got, long want) {
        due(call, got, want);
        due(call + ", then asked()", x.asked(), m.asked);
    }

    private int weight(int way) {
        switch (way) {
            case 0: return lot.nextInt(10);
            case 1: return lot.nextInt(2);
            case 2: return lot.nextInt(3) == 0 ? 9 : 0;
            default: return 5;
        }
    }

    private void make() {
        int cases = 1 + lot.nextInt(12), aims = 1 + lot.nextInt(lot.nextBoolean() ? 3 : 8), way = lot.nextInt(4);
        int gaps = 1 + lot.nextInt(GAPS.length), lengths = 1 + lot.nextInt(LENGTHS.length);
        long low = lot.nextInt(8) == 0 ? Integer.MIN_VALUE : lot.nextInt(8) == 0 ? Integer.MAX_VALUE - 60 : lot.nextInt(100) - 50;
        for (int i = 0; i < cases; i++) {
            long high = low + LENGTHS[lot.nextInt(lengths)] - 1;
            if (high > Integer.MAX_VALUE) {
                return;
            }
            int aim = lot.nextInt(aims), weight = weight(way);
            String call = "add(" + low + ", " + high + ", " + aim + ", " + weight + ")";
            due(call, x.add((int) low, (int) high, aim, weight), m.add((int) low, (int) high, aim, weight));
            made.append(call).append("; ");
            low = high + 1 + GAPS[lot.nextInt(gaps)];
            if (low > Integer.MAX_VALUE) {
                return;
            }
        }
    }

    private void lookAtParts() {
        for (int what = 0; what < 8; what++) {
            due("count(" + what + ")", x.count(what), m.count(what));
        }
        for (int k = 0; k < m.parts().size(); k++) {
            for (int what = 0; what < 6; what++) {
                told("part(" + k + ", " + what + ")", x.part(k, what), m.part(k, what));
            }
            int sort = m.parts().get(k).sort;
            told("mark(" + k + ", " + sort + ")", x.mark(k, sort), m.mark(k, sort));
            int place = lot.nextInt(64), aim = m.cases().get(m.parts().get(k).first).aim();
            told("jump(" + k + ", " + place + ")", x.jump(k, place), m.jump(k, place));
            due("mask(" + k + ", " + aim + ")", x.mask(k, aim), m.mask(k, aim));
            due("mask0()", x.mask0(), m.mask0);
        }
    }

    private void lookAtCosts() {
        due("cost()", x.cost(), m.cost());
        due("chain()", x.chain(), m.chain());
        for (int sort = 1; sort <= 3; sort++) {
            due("only(" + sort + ")", x.only(sort), m.only(sort));
        }
        told("worst()", x.worst(), m.worst());
    }

    private void lookAtCases() {
        for (int i = 0; i < m.cases().size(); i++) {
            told("swing(" + i + ")", x.swing(i), m.swing(i));
            for (int selector : new int[] {m.cases().get(i).low() - 1, m.cases().get(i).low(), m.cases().get(i).high() + 1}) {
                told("run(" + selector + ")", x.run(selector), m.run(selector));
            }
        }
    }

    private void go() {
        make();
        lookAtParts();
        lookAtCosts();
        lookAtCases();
        if (used > CALLS_OF_AN_OBJECT) {
            wrong++;
            System.out.println("an object was asked " + used + " times");
        }
    }

    public static void main(String[] args) {
        for (int seed = 0; seed < PROGRAMS && wrong == 0; seed++) {
            new PlansByLots(seed).go();
        }
        System.out.println(wrong == 0 ? "all " + looked + " answers on plans are as due" : wrong + " answers are not as due");
        if (wrong != 0) {
            System.exit(1);
        }
    }
}
