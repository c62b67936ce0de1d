import java.io.IOException;
import java.lang.reflect.Constructor;
import java.lang.reflect.Field;
import java.lang.reflect.Method;
import java.lang.reflect.Modifier;
import java.nio.file.Files;
import java.nio.file.Path;
import java.util.ArrayList;
import java.util.List;
import java.util.Map;
import java.util.Set;
import java.util.TreeMap;
import java.util.TreeSet;
import java.util.regex.Matcher;
import java.util.regex.Pattern;

/** The rules of LANGUAGE.md that can be seen by reflection or in the source's lines. */
public final class Rules {
    private static final String FACE = "int row(int,int); int lay(int,int,int); int at(int,int); int tear(int); "
            + "int copy(int,int,int,int,int); int mean(int); int text(int,int); int put(int,int,int); int fault(int); "
            + "int program(int); int write(int); int hash(int); int told(int,int); int add(int,int,int,int); "
            + "int cut(int); int aim(int,int); int weigh(int,int); int undo(int); int keep(int); int on(int); "
            + "int reach(int); int run(int); int cost(); int part(int,int); int mark(int,int); int jump(int,int); "
            + "int mask(int,int); int only(int); int chain(); int worst(); int swing(int); long covered(int,int); "
            + "int lots(int,int); int asked(); long mask0(); int count(int); int finding(); int findings(int); "
            + "long digest()";
    private static final Set<String> CONSTANTS = Set.of("BAD", "FULL", "FINDING", "STATE", "SPENT", "NONE");
    private static final int MOST_LINES = 60, MOST_PARAMETERS = 7, MOST_CLASSES = 12, MOST_FIELDS = 20,
            MOST_DEPTH = 8;
    /** Of rule 4's library, what the class uses. */
    private static final Set<String> LIBRARY = Set.of("length", "charAt", "bitCount", "max", "min", "abs", "arraycopy");
    private static final Pattern METHOD = Pattern.compile("(?m)^( {4}| {8})(?!for|if|while|switch)[a-zA-Z][^(;=\n]*?\\b([a-zA-Z0-9]+)\\([^\n]*\\) \\{$");

    private static int wrong = 0;

    private static void broken(int rule, String what) {
        wrong++;
        System.out.println("rule " + rule + ": " + what);
    }

    private static String signature(Method m) {
        StringBuilder s = new StringBuilder(m.getReturnType() + " " + m.getName() + "(");
        for (Class<?> p : m.getParameterTypes()) {
            s.append(s.charAt(s.length() - 1) == '(' ? "" : ",").append(p);
        }
        return s.append(")").toString();
    }

    private static void face(Class<?> c) {
        Set<String> due = new TreeSet<>(List.of(FACE.split("; ")));
        Set<String> got = new TreeSet<>();
        for (Method m : c.getDeclaredMethods()) {
            if (Modifier.isPublic(m.getModifiers())) {
                got.add(signature(m));
            } else if (!Modifier.isPrivate(m.getModifiers())) {
                broken(1, m + " is neither public nor private");
            }
        }
        if (!got.equals(due)) {
            broken(1, "the face is " + got);
        }
        for (Constructor<?> k : c.getDeclaredConstructors()) {
            if (!Modifier.isPublic(k.getModifiers()) || k.getParameterCount() != 0) {
                broken(1, k.toString());
            }
        }
        for (Field f : c.getDeclaredFields()) {
            if (CONSTANTS.contains(f.getName()) != Modifier.isPublic(f.getModifiers())
                    || !Modifier.isPublic(f.getModifiers()) && !Modifier.isPrivate(f.getModifiers())) {
                broken(1, f.toString());
            }
        }
        if (!Modifier.isFinal(c.getModifiers()) || !Modifier.isPublic(c.getModifiers())) {
            broken(1, "the class is not public and final");
        }
    }

    private static void inside(Class<?> outer) {
        Set<String> names = new TreeSet<>();
        for (Method m : outer.getMethods()) {
            if (m.getDeclaringClass() == outer) {
                names.add(m.getName());
            }
        }
        List<Class<?>> all = new ArrayList<>(List.of(outer.getDeclaredClasses()));
        all.add(outer);
        if (all.size() > MOST_CLASSES) {
            broken(11, all.size() + " classes");
        }
        for (Class<?> c : all) {
            if (c != outer && (!Modifier.isStatic(c.getModifiers()) || Modifier.isPublic(c.getModifiers()))) {
                broken(2, c.toString());
            }
            int fields = 0;
            for (Field f : c.getDeclaredFields()) {
                if (!Modifier.isStatic(f.getModifiers())) {
                    fields++;
                } else if (!Modifier.isFinal(f.getModifiers())) {
                    broken(5, f.toString());
                }
            }
            if (fields > MOST_FIELDS) {
                broken(11, c + " has " + fields + " fields");
            }
            for (Method m : c.getDeclaredMethods()) {
                if (!Modifier.isPublic(m.getModifiers()) && names.contains(m.getName())) {
                    broken(1, m + " bears the name of a public method");
                }
                if (m.getParameterCount() > MOST_PARAMETERS) {
                    broken(11, m.toString());
                }
            }
        }
    }

    /** The source without comments and texts, line by line as it stands. */
    private static String bare(String source) {
        Matcher m = Pattern.compile("/\\*.*?\\*/|//[^\n]*|\"[^\"\n]*\"|'[^'\n]*'", Pattern.DOTALL).matcher(source);
        return m.replaceAll(r -> r.group().replaceAll("[^\n]", " "));
    }

    private static void words(String source) {
        forbid(source, 6, "\\b(throw|throws|try|catch|finally|synchronized|assert)\\b");
        forbid(source, 2, "->|::");
        forbid(source, 4, "\\bimport\\b|\\bpackage\\b|Exact\\b|\\bObject\\b|\\bDouble\\b|\\bSystem\\.(?!arraycopy\\b)");
        forbid(source, 13, "\\b(Random|Thread|currentTimeMillis|nanoTime|identityHashCode)\\b");
        forbid(source, 9, "while \\(true\\)|for \\(;;\\)");
        // this project's own: calls make no objects, only fields and constructors do
        for (String line : source.split("\n")) {
            if (line.contains("new ") && !line.matches("\\s+private final .* = new .*|\\s+final int.* = new int.*")
                    && !line.matches("\\s+(rows|texts|keptPrograms)\\[.\\] = new .*|\\s+places = new .*")) {
                broken(12, "an object is made by a call: " + line.trim());
            }
        }
    }

    private static void forbid(String source, int rule, String pattern) {
        Matcher m = Pattern.compile(pattern).matcher(source);
        while (m.find()) {
            broken(rule, "'" + m.group() + "' in line " + source.substring(0, m.start()).split("\n", -1).length);
        }
    }

    private static void methodLengths(String source) {
        String[] lines = source.split("\n");
        Pattern head = Pattern.compile("^( {4}| {8})[a-zA-Z].*\\) \\{$");
        for (int i = 0; i < lines.length; i++) {
            Matcher m = head.matcher(lines[i]);
            if (!m.matches()) {
                continue;
            }
            int end = i;
            while (end < lines.length && !lines[end].equals(m.group(1) + "}")) {
                end++;
            }
            if (end - i + 1 > MOST_LINES) {
                broken(11, "the method in line " + (i + 1) + " has " + (end - i + 1) + " lines");
            }
        }
    }

    /** Names of methods to the bodies of all methods that bear the name: those of one name are taken as one. */
    private static Map<String, String> bodies(String source) {
        Map<String, String> bodies = new TreeMap<>();
        Matcher m = METHOD.matcher(source);
        while (m.find()) {
            String end = "\n" + m.group(1) + "}\n";
            String body = source.substring(m.end(), source.indexOf(end, m.end()));
            bodies.merge(m.group(2), body, String::concat);
        }
        return bodies;
    }

    private static Set<String> calledIn(String body) {
        Set<String> called = new TreeSet<>();
        Matcher m = Pattern.compile("(?<!\\bnew )\\b([a-zA-Z0-9]+)\\(").matcher(body);
        while (m.find()) {
            called.add(m.group(1));
        }
        return called;
    }

    /** Else a method written in another form would not be looked at. */
    private static void allAreSeen(Class<?> outer, Map<String, String> bodies) {
        List<Class<?>> all = new ArrayList<>(List.of(outer.getDeclaredClasses()));
        all.add(outer);
        for (Class<?> c : all) {
            for (Method m : c.getDeclaredMethods()) {
                if (!bodies.containsKey(m.getName())) {
                    broken(11, m + " is not seen in the source");
                }
            }
        }
    }

    private static void library(String source, Map<String, String> bodies) {
        for (Map.Entry<String, String> e : bodies.entrySet()) {
            for (String called : calledIn(e.getValue())) {
                if (!bodies.containsKey(called) && !LIBRARY.contains(called)) {
                    broken(4, e.getKey() + " calls " + called);
                }
            }
        }
        forbid(source, 4, "\\b(Integer|Long|Character|Byte|Short)\\.[A-Z]\\w*");
    }

    /** How many calls stand open at once, this one too; a method that calls itself counts once. */
    private static int depthOf(String name, Map<String, String> bodies, List<String> open) {
        int deepest = 0;
        if (bodies.containsKey(name)) {
            open.add(name);
            for (String called : calledIn(bodies.get(name))) {
                if (!called.equals(name) && open.contains(called)) {
                    broken(8, open + " calls " + called + " again");
                } else if (!called.equals(name)) {
                    deepest = Math.max(deepest, depthOf(called, bodies, open));
                }
            }
            open.remove(open.size() - 1);
        }
        return deepest + 1;
    }

    private static void depths(Map<String, String> bodies) {
        for (String name : bodies.keySet()) {
            int depth = depthOf(name, bodies, new ArrayList<>());
            if (depth > MOST_DEPTH) {
                broken(11, name + " goes " + depth + " calls deep");
            }
        }
    }

    public static void main(String[] args) throws IOException {
        face(CaseCutter.class);
        inside(CaseCutter.class);
        String source = bare(Files.readString(Path.of("src/main/java/CaseCutter.java")));
        words(source);
        methodLengths(source);
        Map<String, String> bodies = bodies(source);
        allAreSeen(CaseCutter.class, bodies);
        library(source, bodies);
        depths(bodies);
        System.out.println(wrong == 0 ? "the rules are kept" : wrong + " rules are broken");
        if (wrong != 0) {
            System.exit(1);
        }
    }
}
