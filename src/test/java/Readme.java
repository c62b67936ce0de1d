import java.io.IOException;
import java.lang.reflect.Method;
import java.lang.reflect.Modifier;
import java.nio.file.Files;
import java.nio.file.Path;
import java.util.Set;
import java.util.TreeSet;
import java.util.regex.Matcher;
import java.util.regex.Pattern;

/** README.md's examples answer what stands behind them, and each call and constant is named there. */
public final class Readme {
    private static final Pattern CALL = Pattern.compile("x\\.(\\w+)\\((.*)\\);(?: +// (-?\\d+):? .*)?");
    private static final Pattern WORDS = Pattern.compile("String words = \"(.*)\";");
    private static final int LEAST_CALLS = 20;

    private static int wrong = 0, looked = 0;
    private static String words = "";

    private static void wrong(String what) {
        wrong++;
        System.out.println("README.md: " + what);
    }

    private static long answer(CaseCutter x, String name, Object[] numbers) throws ReflectiveOperationException {
        for (Method m : CaseCutter.class.getMethods()) {
            if (m.getName().equals(name) && m.getParameterCount() == numbers.length) {
                return ((Number) m.invoke(x, numbers)).longValue();
            }
        }
        throw new NoSuchMethodException(name);
    }

    private static Object[] numbers(String list) {
        String[] each = list.isEmpty() ? new String[0] : list.split(", ");
        Object[] all = new Object[each.length];
        for (int i = 0; i < each.length; i++) {
            all[i] = each[i].equals("words.length()") ? words.length() : Integer.parseInt(each[i]);
        }
        return all;
    }

    private static void line(CaseCutter x, String line) throws ReflectiveOperationException {
        Matcher told = WORDS.matcher(line);
        if (told.matches()) {
            words = told.group(1);
            return;
        }
        Matcher call = CALL.matcher(line);
        if (!call.matches()) {
            return;
        }
        if (line.equals("x.put(0, i, words.charAt(i));")) {
            for (int i = 0; i < words.length(); i++) {
                x.put(0, i, words.charAt(i));
            }
            return;
        }
        long got = answer(x, call.group(1), numbers(call.group(2)));
        looked++;
        if (call.group(3) == null || got != Long.parseLong(call.group(3))) {
            wrong("'" + line + "', but it answers " + got);
        }
    }

    private static void names(String readme) {
        Set<String> names = new TreeSet<>();
        for (Method m : CaseCutter.class.getDeclaredMethods()) {
            if (Modifier.isPublic(m.getModifiers())) {
                names.add("`" + m.getName() + "`");
            }
        }
        names.addAll(Set.of("`BAD` -1", "`FULL` -2", "`FINDING` -3", "`STATE` -4", "`SPENT` -6", "`NONE` -9"));
        for (String name : names) {
            if (!readme.contains(name)) {
                wrong(name + " is not named");
            }
        }
    }

    public static void main(String[] args) throws IOException, ReflectiveOperationException {
        String readme = Files.readString(Path.of("README.md"));
        CaseCutter x = new CaseCutter();
        for (String line : readme.split("\n")) {
            line(x, line.trim());
        }
        if (looked < LEAST_CALLS) {
            wrong("only " + looked + " calls were found in it");
        }
        names(readme);
        System.out.println(wrong == 0 ? "all " + looked + " calls of README.md answer so" : wrong + " are wrong in README.md");
        if (wrong != 0) {
            System.exit(1);
        }
    }
}
