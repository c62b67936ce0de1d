import java.lang.reflect.InvocationTargetException;
import java.lang.reflect.Method;
import java.util.Arrays;
import java.util.LinkedHashMap;
import java.util.Map;

/**
 * Each call with each mix of numbers at the edges, in each of some states that are at edges
 * themselves (nothing there, 12 CASES, 40 DEEDS, PARTS at both ends of all numbers, one CASE of
 * all numbers), beside the second program; a call that throws is wrong, too.
 */
public final class EdgesOfCalls {
    private static final int LEAST = Integer.MIN_VALUE, MOST = Integer.MAX_VALUE;
    private static final int CALLS_OF_AN_OBJECT = 512, CALLS_OF_A_TRY = 5;

    private static final int[] ROW = {LEAST, -1, 0, 1, 2, 5, 6, MOST};
    private static final int[] TEXT = {LEAST, -1, 0, 1, 2, 3, 4, MOST};
    private static final int[] PLACE = {LEAST, -1, 0, 1, 39, 40, MOST};
    private static final int[] BYTE_PLACE = {LEAST, -1, 0, 1, 119, 120, MOST};
    private static final int[] ROW_SIZE = {LEAST, -1, 0, 1, 39, 40, 41, MOST};
    private static final int[] TEXT_SIZE = {LEAST, -1, 0, 1, 119, 120, 121, MOST};
    private static final int[] VALUE = {LEAST, -129, -128, -1, 0, 25, 26, 127, 128, 255, 256, MOST};
    private static final int[] CASE = {LEAST, -1, 0, 1, 2, 3, 10, 11, 12, MOST};
    private static final int[] AIM = {LEAST, -1, 0, 1, 2, 7, 8, MOST};
    private static final int[] WEIGHT = {LEAST, -1, 0, 1, 5, 9, 10, MOST};
    private static final int[] SELECTOR = {LEAST, LEAST + 1, LEAST + 31, LEAST + 32, LEAST + 63, LEAST + 64, -1000, -1,
        0, 1, 2, 3, 22, 23, 97, 3105, 1000, MOST - 64, MOST - 63, MOST - 32, MOST - 31, MOST - 1, MOST};
    private static final int[] KEPT = {LEAST, -1, 0, 1, 2, 3, MOST};
    private static final int[] ROWED_PLACE = {LEAST, -1, 0, 1, 22, 23, 31, 32, 62, 63, 64, MOST};
    private static final int[] SORT = {LEAST, -1, 0, 1, 2, 3, 4, 5, MOST};
    private static final int[] WHAT = {LEAST, -1, 0, 1, 2, 3, 4, 5, 6, 7, 8, 9, 10, 11, 12, MOST};
    private static final int[] DEED = {LEAST, -1, 0, 1, 11, 12, 13, 39, 40, 41, MOST};
    private static final int[] LOTS = {LEAST, -1, 0, 1, 2, 19, 20, 21, MOST};
    private static final int[] SEED = {LEAST, -1, 0, 1, 2, 48271, 1 << 30, MOST - 1, MOST};

    private static final Map<String, int[][]> CALLS = new LinkedHashMap<>();

    static {
        CALLS.put("row", new int[][] {ROW, ROW_SIZE});
        CALLS.put("lay", new int[][] {ROW, PLACE, VALUE});
        CALLS.put("at", new int[][] {ROW, PLACE});
        CALLS.put("tear", new int[][] {ROW});
        CALLS.put("copy", new int[][] {ROW, PLACE, ROW, PLACE, ROW_SIZE});
        CALLS.put("mean", new int[][] {ROW});
        CALLS.put("text", new int[][] {TEXT, TEXT_SIZE});
        CALLS.put("put", new int[][] {TEXT, BYTE_PLACE, VALUE});
        CALLS.put("fault", new int[][] {TEXT});
        CALLS.put("program", new int[][] {TEXT});
        CALLS.put("write", new int[][] {TEXT});
        CALLS.put("hash", new int[][] {ROW});
        CALLS.put("told", new int[][] {CASE, WHAT});
        CALLS.put("add", new int[][] {SELECTOR, SELECTOR, AIM, WEIGHT});
        CALLS.put("cut", new int[][] {CASE});
        CALLS.put("aim", new int[][] {CASE, AIM});
        CALLS.put("weigh", new int[][] {CASE, WEIGHT});
        CALLS.put("undo", new int[][] {DEED});
        CALLS.put("keep", new int[][] {KEPT});
        CALLS.put("on", new int[][] {KEPT});
        CALLS.put("reach", new int[][] {SELECTOR});
        CALLS.put("run", new int[][] {SELECTOR});
        CALLS.put("cost", new int[][] {});
        CALLS.put("part", new int[][] {CASE, WHAT});
        CALLS.put("mark", new int[][] {CASE, SORT});
        CALLS.put("jump", new int[][] {CASE, ROWED_PLACE});
        CALLS.put("mask", new int[][] {CASE, AIM});
        CALLS.put("only", new int[][] {SORT});
        CALLS.put("chain", new int[][] {});
        CALLS.put("worst", new int[][] {});
        CALLS.put("swing", new int[][] {CASE});
        CALLS.put("covered", new int[][] {SELECTOR, SELECTOR});
        CALLS.put("lots", new int[][] {LOTS, SEED});
        CALLS.put("count", new int[][] {WHAT});
        CALLS.put("findings", new int[][] {SORT});
    }

    private static final String[] STATES = {
        "",
        "row 0 40; lay 0 0 -2147483648; lay 0 39 2147483647; row 1 6; lay 1 5 25; row 2 0; row 5 1; lay 5 0 26; "
            + "text 0 120; put 0 0 120; text 1 0; text 3 1; put 3 0 -1; keep 0; add 0 0 0 0; keep 2",
        "add 0 0 0 9; add 2 2 1 9; add 4 4 0 9; add 6 6 1 9; add 8 8 2 9; add 10 10 3 1; add 12 12 4 2; add 14 14 5 3; "
            + "add 16 16 6 4; add 18 18 7 5; add 20 20 0 6; add 22 22 1 7",
        "lots 20 7; lots 20 9; keep 0; keep 1; keep 2",
        "add 0 0 1 9; add 100 101 2 8; add 200 200 3 7; add 300 300 4 6; add 400 400 5 5; add 500 500 6 4; add 600 600 7 3; "
            + "add 700 700 0 2; add 800 800 1 1; add 900 900 2 0; add 1000 1000 3 9; add -1000 -1 4 9",
        "add -2147483648 -2147483648 1 5; add -2147483617 -2147483617 1 5; add 2147483616 2147483616 2 5; "
            + "add 2147483647 2147483647 2 5; add -1 1 3 5; write 2; keep 1",
        "add -2147483648 2147483647 7 9; row 0 2; row 5 40; write 3",
        "add -2147483648 -2147483640 1 5; add -2147483592 -2147483585 2 5; add -2147483639 -2147483620 3 5; "
            + "add 2147483584 2147483590 1 5; add 2147483640 2147483647 2 5; add 2147483600 2147483605 3 5",
        "add -2147483648 -1 1 9; add 0 2147483647 2 9; aim 0 3; weigh 1 0; cut 0; undo 3; write 0; program 0; keep 2",
    };

    private static int wrong = 0, tried = 0;

    private final Map<String, Method> faces = new LinkedHashMap<>();
    private final Map<String, Method> models = new LinkedHashMap<>();
    private CaseCutter x;
    private Model m;
    private String state;
    private long digestAtFirst;
    private int used;

    private EdgesOfCalls() {
        for (Method f : CaseCutter.class.getDeclaredMethods()) {
            faces.put(f.getName(), f);
        }
        for (String name : CALLS.keySet()) {
            for (Method f : Model.class.getDeclaredMethods()) {
                if (f.getName().equals(name) && f.getParameterCount() == CALLS.get(name).length) {
                    models.put(name, f);
                }
            }
        }
    }

    private static Object[] boxed(int[] numbers) {
        Object[] all = new Object[numbers.length];
        for (int i = 0; i < numbers.length; i++) {
            all[i] = numbers[i];
        }
        return all;
    }

    private static long asked(Method f, Object of, Object[] with) throws ReflectiveOperationException {
        return ((Number) f.invoke(of, with)).longValue();
    }

    private void prepare() throws ReflectiveOperationException {
        x = new CaseCutter();
        m = new Model();
        used = 0;
        for (String call : state.isEmpty() ? new String[0] : state.split("; ")) {
            String[] words = call.split(" ");
            int[] numbers = new int[words.length - 1];
            for (int i = 0; i < numbers.length; i++) {
                numbers[i] = Integer.parseInt(words[i + 1]);
            }
            if (attempt(words[0], numbers) < 0) {
                tellWrong("'" + call + "' is refused: the state is not as meant");
            }
        }
        digestAtFirst = m.digest();
    }

    private void due(String call, long got, long want) {
        if (got != want) {
            tellWrong(call + " answered " + got + ", due is " + want);
        }
    }

    private void tellWrong(String what) {
        wrong++;
        if (wrong < 20) {
            System.out.println("behind '" + state + "' " + what);
        }
    }

    private long attempt(String name, int[] numbers) throws ReflectiveOperationException {
        String call = name + Arrays.toString(numbers);
        Object[] with = boxed(numbers);
        long want = asked(models.get(name), m, with);
        try {
            due(call, asked(faces.get(name), x, with), want);
        } catch (InvocationTargetException thrown) {
            tellWrong(call + " threw " + thrown.getCause());
        }
        due(call + " asked()", x.asked(), m.asked);
        due(call + " mask0()", x.mask0(), m.mask0);
        due(call + " finding()", x.finding(), m.finding);
        due(call + " digest()", x.digest(), m.digest());
        used += CALLS_OF_A_TRY;
        tried++;
        return want;
    }

    private void mixes(String name, int[][] edges, int place, int[] numbers) throws ReflectiveOperationException {
        if (place == edges.length) {
            if (used + CALLS_OF_A_TRY > CALLS_OF_AN_OBJECT || m.digest() != digestAtFirst) {
                prepare();
            }
            attempt(name, numbers.clone());
            return;
        }
        for (int edge : edges[place]) {
            numbers[place] = edge;
            mixes(name, edges, place + 1, numbers);
        }
    }

    private void go() throws ReflectiveOperationException {
        for (String s : STATES) {
            state = s;
            prepare();
            for (Map.Entry<String, int[][]> call : CALLS.entrySet()) {
                mixes(call.getKey(), call.getValue(), 0, new int[call.getValue().length]);
            }
        }
    }

    public static void main(String[] args) throws ReflectiveOperationException {
        new EdgesOfCalls().go();
        System.out.println(wrong == 0 ? "all " + tried + " calls at edges are as due" : wrong + " answers are not as due");
        if (wrong != 0) {
            System.exit(1);
        }
    }
}
