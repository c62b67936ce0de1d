import java.util.ArrayList;
import java.util.List;
import java.util.regex.Matcher;
import java.util.regex.Pattern;

/**
 * TEXTS without a FAULT, and each of them with any one byte instead of each of its bytes, cut off at
 * each place, and with each TOKEN left out, told twice, or any other one instead: the FAULT beside
 * that of the second program, and whether it is a PROGRAM.
 */
public final class FaultsOfTexts {
    private static final int CALLS_OF_AN_OBJECT = 512, MOST_BYTES = 120;

    private static final String[] TEXTS = {
        "case 5 1 3; range 7 9 2 4; name ab 1 2; rest 2;",
        "  rest 0 ;case-2147483648 0 9;  range -2147483647 2147483647 7 0 ;  ",
        "name a 0 0;case 98 1 1;range 99 99 2 2;name zzzzzz 3 3;",
        "range-9-5-0 007;case 00 0 00000000000000000009;name case 1 1;name rest 1 1;",
        "name a0 0;name b0 0;name c0 0;name d0 0;name e0 0;name f0 0;name g0 0;name h0 0;name i0 0;name j0 0;name k0 0;name l0 0;",
        "",
        " ",
    };

    private static final String[] TOKENS = {"case", "range", "name", "rest", "a", "zzzzzz", "zzzzzzz", "cases", "0", "-0", "1", "-1",
        "2", "5", "6", "7", "8", "9", "10", "97", "98", "2147483647", "2147483648", "-2147483648", "-2147483649", "4294967296",
        "18446744073709551616", "-", "--1", "1-", ";", ";;", "+", "A", "1a", "a1"};

    private static int wrong = 0, looked = 0;

    private CaseCutter x;
    private Model m;
    private int used = CALLS_OF_AN_OBJECT;

    private static void due(String call, String text, long got, long want) {
        looked++;
        if (got != want) {
            wrong++;
            if (wrong < 20) {
                System.out.println(call + " of '" + text + "' answered " + got + ", due is " + want);
            }
        }
    }

    private void room(int calls) {
        if (used + calls > CALLS_OF_AN_OBJECT) {
            x = new CaseCutter();
            m = new Model();
            used = 0;
        }
        used += calls;
    }

    private void type(String text) {
        due("text", text, x.text(0, text.length()), m.text(0, text.length()));
        for (int i = 0; i < text.length(); i++) {
            due("put", text, x.put(0, i, text.charAt(i)), m.put(0, i, text.charAt(i)));
        }
    }

    private void whole(String text) {
        if (text.length() > MOST_BYTES) {
            return;
        }
        room(text.length() + 5);
        type(text);
        due("fault", text, x.fault(0), m.fault(0));
        due("program", text, x.program(0), m.program(0));
        due("digest behind program", text, x.digest(), m.digest());
    }

    private void anyByteAt(String text, int place) {
        for (int b = Byte.MIN_VALUE; b <= Byte.MAX_VALUE; b++) {
            if (b == Byte.MIN_VALUE || used + 2 > CALLS_OF_AN_OBJECT) {
                used = CALLS_OF_AN_OBJECT;
                room(text.length() + 1);
                type(text);
            }
            String call = "fault with " + b + " at " + place;
            due("put", text, x.put(0, place, b), m.put(0, place, b));
            due(call, text, x.fault(0), m.fault(0));
            used += 2;
        }
    }

    private static List<String> tokensOf(String text) {
        List<String> tokens = new ArrayList<>();
        Matcher each = Pattern.compile("[a-z]+|-?[0-9]+|;").matcher(text);
        while (each.find()) {
            tokens.add(each.group());
        }
        return tokens;
    }

    private void anyTokens(List<String> tokens) {
        for (int t = 0; t < tokens.size(); t++) {
            List<String> others = new ArrayList<>(tokens);
            others.remove(t);
            whole(String.join(" ", others));
            others.add(t, tokens.get(t));
            others.add(t, tokens.get(t));
            whole(String.join(" ", others));
            others.remove(t);
            for (String token : TOKENS) {
                others.set(t, token);
                whole(String.join(" ", others));
            }
        }
    }

    private void go() {
        for (String text : TEXTS) {
            whole(text);
            due("fault", text, x.fault(0), -9);
            used++;
            for (int n = 0; n < text.length(); n++) {
                whole(text.substring(0, n));
                anyByteAt(text, n);
            }
            anyTokens(tokensOf(text));
        }
    }

    public static void main(String[] args) {
        new FaultsOfTexts().go();
        System.out.println(wrong == 0 ? "all " + looked + " answers on TEXTS are as due" : wrong + " answers are not as due");
        if (wrong != 0) {
            System.exit(1);
        }
    }
}
