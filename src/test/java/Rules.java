import java.io.IOException;
import java.lang.reflect.Constructor;
import java.lang.reflect.Field;
import java.lang.reflect.Method;
import java.lang.reflect.Modifier;
import java.nio.file.Files;
import java.nio.file.Path;
import java.util.ArrayList;
import java.util.List;
import java.util.Set;
import java.util.TreeSet;
import java.util.regex.Matcher;
import java.util.regex.Pattern;

/** The rules of LANGUAGE.md that can be seen by reflection or in the source's lines. */
public final class Rules {
    private static final String FACE = "int row(int,int); int lay(int,int,int); int at(int,int); int tear(int); "
            + "int copy(int,int,int,int,int); int mean(int); int text(int,int); int put(int,int,int); int fault(int); "
            + "int program(int); int write(int); int hash(int); int told(int,int); int add(int,int,int,int); "
            + "int cut(int); int aim(int,int); int weigh(int,int); int undo(int); int keep(int); int on(int); "
            + "int reach(int); int run(int); int cost(); int part(int,int); int mark(int,int); int jump(int,int); "
            + "int mask(int,int); int only(int); int chain(); int worst(); int swing(int); long covered(int,int); "
            + "int lots(int,int); int asked(); long mask0(); int count(int); int finding(); int findings(int); "
            + "long digest()";
    private static final Set<String> CONSTANTS = Set.of("BAD", "FULL", "FINDING", "STATE", "SPENT", "NONE");
    private static final int MOST_LINES = 60, MOST_PARAMETERS = 7, MOST_CLASSES = 12, MOST_FIELDS = 20;

    private static int wrong = 0;

    private static void broken(int rule, String what) {
        wrong++;
        System.out.println("rule " + rule + ": " + what);
    }

    private static String signature(Method m) {
        StringBuilder s = new StringBuilder(m.getReturnType() + " " + m.getName() + "(");
        for (Class<?> p : m.getParameterTypes()) {
            s.append(s.charAt(s.length() - 1) == '(' ? "" : ",").append(p);
        }
        return s.append(")").toString();
    }

    private static void face(Class<?> c) {
        Set<String> due = new TreeSet<>(List.of(FACE.split("; ")));
        Set<String> got = new TreeSet<>();
        for (Method m : c.getDeclaredMethods()) {
            if (Modifier.isPublic(m.getModifiers())) {
                got.add(signature(m));
            } else if (!Modifier.isPrivate(m.getModifiers())) {
                broken(1, m + " is neither public nor private");
            }
        }
        if (!got.equals(due)) {
            broken(1, "the face is " + got);
        }
        for (Constructor<?> k : c.getDeclaredConstructors()) {
            if (!Modifier.isPublic(k.getModifiers()) || k.getParameterCount() != 0) {
                broken(1, k.toString());
            }
        }
        for (Field f : c.getDeclaredFields()) {
            if (CONSTANTS.contains(f.getName()) != Modifier.isPublic(f.getModifiers())
                    || !Modifier.isPublic(f.getModifiers()) && !Modifier.isPrivate(f.getModifiers())) {
                broken(1, f.toString());
            }
        }
        if (!Modifier.isFinal(c.getModifiers()) || !Modifier.isPublic(c.getModifiers())) {
            broken(1, "the class is not public and final");
        }
    }

    private static void inside(Class<?> outer) {
        Set<String> names = new TreeSet<>();
        for (Method m : outer.getMethods()) {
            if (m.getDeclaringClass() == outer) {
                names.add(m.getName());
            }
        }
        List<Class<?>> all = new ArrayList<>(List.of(outer.getDeclaredClasses()));
        all.add(outer);
        if (all.size() > MOST_CLASSES) {
            broken(11, all.size() + " classes");
        }
        for (Class<?> c : all) {
            if (c != outer && (!Modifier.isStatic(c.getModifiers()) || Modifier.isPublic(c.getModifiers()))) {
                broken(2, c.toString());
            }
            int fields = 0;
            for (Field f : c.getDeclaredFields()) {
                if (!Modifier.isStatic(f.getModifiers())) {
                    fields++;
                } else if (!Modifier.isFinal(f.getModifiers())) {
                    broken(5, f.toString());
                }
            }
            if (fields > MOST_FIELDS) {
                broken(11, c + " has " + fields + " fields");
            }
            for (Method m : c.getDeclaredMethods()) {
                if (!Modifier.isPublic(m.getModifiers()) && names.contains(m.getName())) {
                    broken(1, m + " bears the name of a public method");
                }
                if (m.getParameterCount() > MOST_PARAMETERS) {
                    broken(11, m.toString());
                }
            }
        }
    }

    /** The source without comments and texts, line by line as it stands. */
    private static String bare(String source) {
        Matcher m = Pattern.compile("/\\*.*?\\*/|//[^\n]*|\"[^\"\n]*\"|'[^'\n]*'", Pattern.DOTALL).matcher(source);
        return m.replaceAll(r -> r.group().replaceAll("[^\n]", " "));
    }

    private static void words(String source) {
        forbid(source, 6, "\\b(throw|throws|try|catch|finally|synchronized|assert)\\b");
        forbid(source, 2, "->|::");
        forbid(source, 4, "\\bimport\\b|\\bpackage\\b|Exact\\b|\\bObject\\b|\\bDouble\\b|\\bSystem\\.(?!arraycopy\\b)");
        forbid(source, 13, "\\b(Random|Thread|currentTimeMillis|nanoTime|identityHashCode)\\b");
        forbid(source, 9, "while \\(true\\)|for \\(;;\\)");
        // this project's own: calls make no objects, only fields and constructors do
        for (String line : source.split("\n")) {
            if (line.contains("new ") && !line.matches("\\s+private final .* = new .*|\\s+final int.* = new int.*")
                    && !line.matches("\\s+(rows|texts|keptPrograms)\\[.\\] = new .*|\\s+places = new .*")) {
                broken(12, "an object is made by a call: " + line.trim());
            }
        }
    }

    private static void forbid(String source, int rule, String pattern) {
        Matcher m = Pattern.compile(pattern).matcher(source);
        while (m.find()) {
            broken(rule, "'" + m.group() + "' in line " + source.substring(0, m.start()).split("\n", -1).length);
        }
    }

    private static void methodLengths(String source) {
        String[] lines = source.split("\n");
        Pattern head = Pattern.compile("^( {4}| {8})[a-zA-Z].*\\) \\{$");
        for (int i = 0; i < lines.length; i++) {
            Matcher m = head.matcher(lines[i]);
            if (!m.matches()) {
                continue;
            }
            int end = i;
            while (end < lines.length && !lines[end].equals(m.group(1) + "}")) {
                end++;
            }
            if (end - i + 1 > MOST_LINES) {
                broken(11, "the method in line " + (i + 1) + " has " + (end - i + 1) + " lines");
            }
        }
    }

    public static void main(String[] args) throws IOException {
        face(CaseCutter.class);
        inside(CaseCutter.class);
        String source = bare(Files.readString(Path.of("src/main/java/CaseCutter.java")));
        words(source);
        methodLengths(source);
        System.out.println(wrong == 0 ? "the rules are kept" : wrong + " rules are broken");
        if (wrong != 0) {
            System.exit(1);
        }
    }
}
