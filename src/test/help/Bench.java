import java.math.BigInteger;
import java.util.function.LongSupplier;

/**
 * What the files of sentences share: each sentence of the document that names a boundary case has a
 * test of its own, told by its words; and what each refusal has to leave as it is.
 */
abstract class Bench {
    static final int BAD = -1, FULL = -2, FINDING = -3, STATE = -4, SPENT = -6, NONE = -9;
    static final int NOTHING = 1, BEYOND = 2, UNLIKE = 3, NOUGHT = 4, SIZE = 5;
    static final int POINT = 4, LONE = 1, ROWED = 2, MASKED = 3;
    static final int MIN = Integer.MIN_VALUE, MAX = Integer.MAX_VALUE;

    private static String place = "";
    private static int sentences = 0;
    private static int broken = 0;
    private static int wrong = 0;

    /** The place is "Terms" or a promise's number and call, the words are the document's. */
    static void sentence(String where, String words, Runnable test) {
        place = where + ": \"" + words + "\"";
        sentences++;
        int before = wrong;
        try {
            test.run();
        } catch (RuntimeException | Error thrown) {
            wrong("a call threw " + thrown);
        }
        if (wrong > before) {
            broken++;
            System.out.println("BROKEN " + place);
        }
    }

    static void end() {
        System.out.println(broken == 0 ? "all " + sentences + " sentences hold"
                : broken + " of " + sentences + " sentences do not hold");
        if (broken != 0) {
            System.exit(1);
        }
    }

    private static void wrong(String what) {
        wrong++;
        System.out.println(place + ": " + what);
    }

    static void due(String call, long got, long want) {
        if (got != want) {
            wrong(call + " answered " + got + ", due is " + want);
        }
    }

    static void dueWords(String call, String got, String want) {
        if (!got.equals(want)) {
            wrong(call + " was '" + got + "', due is '" + want + "'");
        }
    }

    /** Answers 1, and asked() tells the value. */
    static void tells(CaseCutter x, String call, int got, int value) {
        due(call, got, 1);
        due(call + ", then asked()", x.asked(), value);
    }

    /** Refused, but by no finding: nothing at all is another one. */
    static void refuses(CaseCutter x, String call, int answer, LongSupplier made) {
        unchanged(x, call, answer, 0, made);
    }

    /** NONE is no refusal, but it leaves all as it is, too (but for run()). */
    static void none(CaseCutter x, String call, LongSupplier made) {
        unchanged(x, call, NONE, 0, made);
    }

    /** Refused by a finding: finding() and findings() alone are other ones. */
    static void finds(CaseCutter x, String call, int finding, LongSupplier made) {
        unchanged(x, call, FINDING, finding, made);
    }

    private static void unchanged(CaseCutter x, String call, int answer, int finding, LongSupplier made) {
        long digest = x.digest();
        int asked = x.asked();
        long mask = x.mask0();
        int latest = x.finding();
        int[] times = new int[6];
        for (int f = 1; f <= 5; f++) {
            times[f] = x.findings(f);
        }
        due(call, made.getAsLong(), answer);
        due(call + ", then digest()", x.digest(), digest);
        due(call + ", then asked()", x.asked(), asked);
        due(call + ", then mask0()", x.mask0(), mask);
        due(call + ", then finding()", x.finding(), finding == 0 ? latest : finding);
        for (int f = 1; f <= 5; f++) {
            due(call + ", then findings(" + f + ")", x.findings(f), times[f] + (f == finding ? 1 : 0));
        }
    }

    static void type(CaseCutter x, int t, String words) {
        x.text(t, words.length());
        for (int i = 0; i < words.length(); i++) {
            if (words.charAt(i) != ' ') {
                x.put(t, i, words.charAt(i));
            }
        }
    }

    /** A new object whose PROGRAM these words tell. */
    static CaseCutter of(String words) {
        CaseCutter x = new CaseCutter();
        type(x, 0, words);
        if (x.program(0) < 0) {
            wrong("'" + words + "' is refused");
        }
        return x;
    }

    /** An object with ROWS, TEXTS, CASES, REST, DEEDS, kept PROGRAMS, with asked(), mask0(), finding(). */
    static CaseCutter furnished() {
        CaseCutter x = of("range 0 1 1 9;range 30 31 1 9;case 99 2 1;rest 3;");
        x.row(0, 3);
        x.lay(0, 0, 7);
        x.lay(0, 2, -9);
        x.row(1, 0);
        x.text(1, 2);
        x.put(1, 1, 200);
        x.keep(0);
        x.weigh(2, 2);
        x.keep(1);
        x.aim(2, 5);
        x.mask(0, 1);
        x.told(1, 0);
        x.tear(5);
        return x;
    }

    /** One CASE, 0, of AIM 0, WEIGHT 0, and as many DEEDS as told (an even number). */
    static CaseCutter withDeeds(int deeds) {
        CaseCutter x = of("case 0 0 0;");
        for (int d = 0; d < deeds; d++) {
            x.aim(0, d % 2 == 0 ? 1 : 0);
        }
        return x;
    }

    /** CASES 0, 1000, 2000, .. of AIM 0, WEIGHT 0, as many DEEDS. */
    static CaseCutter withCases(int cases) {
        CaseCutter x = new CaseCutter();
        for (int i = 0; i < cases; i++) {
            x.add(1000 * i, 1000 * i, 0, 0);
        }
        return x;
    }

    static void dueFault(String words, int place) {
        CaseCutter x = new CaseCutter();
        type(x, 3, words);
        due("fault of '" + words + "'", x.fault(3), place);
        due("program of '" + words + "' below 0", Math.min(x.program(3), 0), place == NONE ? 0 : STATE);
    }

    /** The TEXT, byte by byte; it is left as it is. */
    static String read(CaseCutter x, int t, int size) {
        StringBuilder s = new StringBuilder();
        for (int i = 0; i < size; i++) {
            int b = x.put(t, i, 32) - 1000;
            x.put(t, i, b);
            s.append((char) b);
        }
        return s.toString();
    }

    static void dueWritten(CaseCutter x, String want) {
        int n = x.write(2);
        due("write(2)", n, want.length());
        dueWords("TEXT 2", read(x, 2, Math.max(n, 0)), want);
    }

    static void dueRow(CaseCutter x, int r, int... want) {
        for (int i = 0; i < want.length; i++) {
            tells(x, "at(" + r + ", " + i + ")", x.at(r, i), want[i]);
        }
    }

    static void dueCase(CaseCutter x, int i, int... want) {
        for (int what = 0; what < 4; what++) {
            tells(x, "told(" + i + ", " + what + ")", x.told(i, what), want[what]);
        }
    }

    /** SORT, first, last CASE, DEPTH, STEPS, SPAN. */
    static void duePart(CaseCutter x, int k, int... want) {
        for (int what = 0; what < want.length; what++) {
            tells(x, "part(" + k + ", " + what + ")", x.part(k, what), want[what]);
        }
    }

    static void dueRun(CaseCutter x, int selector, int aim, int steps) {
        due("run(" + selector + ")", x.run(selector), aim);
        due("run(" + selector + "), then asked()", x.asked(), steps);
    }

    /** The seed from which the first number is this one. */
    static int seedOf(long number) {
        BigInteger modulus = BigInteger.valueOf(2147483647);
        return BigInteger.valueOf(48271).modInverse(modulus).multiply(BigInteger.valueOf(number)).mod(modulus).intValue();
    }
}
