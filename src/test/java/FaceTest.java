import java.lang.reflect.Constructor;
import java.lang.reflect.Field;
import java.lang.reflect.Method;
import java.lang.reflect.Modifier;
import java.nio.file.Files;
import java.nio.file.Path;
import java.util.ArrayList;
import java.util.LinkedHashMap;
import java.util.List;
import java.util.Map;
import java.util.Set;
import java.util.TreeSet;
import java.util.regex.Matcher;
import java.util.regex.Pattern;

/** The face is the document's and no more; of LANGUAGE.md, the rules that can be seen from outside. */
public final class FaceTest {
    private static final String[] METHODS = {"int told(int)", "int cell(int, int)", "int edge(int, int)", "int truckAt(int, int)",
        "int build(int, int)", "int truck(int, int)", "int late(int, int)", "int away(int)", "int need(int, int)", "int bound(int, int)",
        "int pour(int)", "int rest(int)", "int follow()", "int drift(int)", "int undo(int)", "int best(int)", "int stop(int)",
        "int write(int, boolean)", "int tear()", "int seed(int)", "int keep(int)", "int goBack(int)"};
    private static final String[] CONSTANTS = {"NONE", "UNKNOWN", "OUTSIDE", "NOT", "FULL"};
    private static final String[] FORBIDDEN = {"\\bthrow\\b", "\\btry\\b", "\\bcatch\\b", "\\bsynchronized\\b", "\\bassert\\b", "->", "::",
        "\\bimport\\b", "\\bpackage\\b", "Exact\\b", "\\bSystem\\.(?!arraycopy)", "\\bThread\\b", "\\bRandom\\b", "static \\{"};
    private static final int MOST_DEEP = 8;
    private static int wrong = 0;

    private static void check(boolean right, String what) {
        if (!right) {
            wrong++;
            System.out.println(what);
        }
    }

    private static String shape(Method m) {
        StringBuilder s = new StringBuilder(m.getReturnType().getName()).append(' ').append(m.getName()).append('(');
        for (Class<?> p : m.getParameterTypes()) {
            if (s.charAt(s.length() - 1) != '(') s.append(", ");
            s.append(p.getName());
        }
        return s.append(')').toString();
    }

    private static void face() {
        Class<?> x = PourPlan.class;
        check(Modifier.isPublic(x.getModifiers()) && Modifier.isFinal(x.getModifiers()), "the class is not public and final");
        TreeSet<String> names = new TreeSet<>();
        TreeSet<String> got = new TreeSet<>();
        for (Method m : x.getDeclaredMethods()) {
            if (Modifier.isPrivate(m.getModifiers())) continue;
            check(Modifier.isPublic(m.getModifiers()) && !Modifier.isStatic(m.getModifiers()), "not private, not of the face: " + m);
            got.add(shape(m));
            names.add(m.getName());
        }
        check(got.equals(new TreeSet<>(List.of(METHODS))), "the methods are " + got);
        for (Field f : x.getDeclaredFields()) {
            boolean isConstant = List.of(CONSTANTS).contains(f.getName());
            check(isConstant == Modifier.isPublic(f.getModifiers()), "public or not: " + f);
            check(isConstant || Modifier.isPrivate(f.getModifiers()), "not private: " + f);
        }
        Constructor<?>[] makers = x.getDeclaredConstructors();
        check(makers.length == 1 && Modifier.isPublic(makers[0].getModifiers()) && makers[0].getParameterCount() == 0, "the constructor");
        for (Class<?> inside : x.getDeclaredClasses()) insideOf(inside, names);
        for (Method m : x.getDeclaredMethods()) {
            check(!Modifier.isPrivate(m.getModifiers()) || !names.contains(m.getName()), "a private one bears a public name: " + m);
        }
    }

    private static void insideOf(Class<?> inside, TreeSet<String> names) {
        check(Modifier.isStatic(inside.getModifiers()) && !Modifier.isPublic(inside.getModifiers()), "not static, or public: " + inside);
        check(inside.getDeclaredFields().length <= 20, "too many fields: " + inside);
        for (Field f : inside.getDeclaredFields()) check(!Modifier.isStatic(f.getModifiers()), "static state: " + f);
        for (Method m : inside.getDeclaredMethods()) {
            check(m.getParameterCount() <= 7, "too many parameters: " + m);
            check(!names.contains(m.getName()), "bears a public name: " + m);
        }
    }

    private static void source() throws Exception {
        Path file = Path.of("src/main/java/PourPlan.java");
        check(Files.exists(file), "run from the project's folder");
        if (!Files.exists(file)) return;
        String text = Files.readString(file).replaceAll("(?s)/\\*.*?\\*/", "").replaceAll("//[^\n]*", "");
        for (String word : FORBIDDEN) {
            Matcher m = Pattern.compile(word).matcher(text);
            check(!m.find(), "not in the language: " + word);
        }
        Map<String, String> bodies = bodies(text.lines().toList());
        check(bodies.keySet().equals(allNames()), "not all methods were read from the source: " + bodies.keySet());
        for (Map.Entry<String, String> body : bodies.entrySet()) {
            check(body.getValue().lines().count() <= 60, "a long method: " + body.getKey());
            check(!body.getValue().matches("(?s).*\\bnew\\b.*"), "makes objects, call by call: " + body.getKey());
        }
        for (String name : bodies.keySet()) {
            List<String> chain = deepest(name, bodies, List.of());
            check(chain.size() <= MOST_DEEP, "too deep: " + chain);
        }
    }

    private static Set<String> allNames() {
        Set<String> names = new TreeSet<>();
        for (Method m : PourPlan.class.getDeclaredMethods()) names.add(m.getName());
        for (Class<?> inside : PourPlan.class.getDeclaredClasses()) {
            for (Method m : inside.getDeclaredMethods()) names.add(m.getName());
        }
        return names;
    }

    /** By name, what stands between a method's braces; constructors are left out. Two of one name could not be told apart here. */
    private static Map<String, String> bodies(List<String> lines) {
        Map<String, String> bodies = new LinkedHashMap<>();
        Pattern head = Pattern.compile("( {4}(?: {4})?)[a-z][^=]* ([a-z]\\w*)\\([^()]*\\) \\{");
        for (int i = 0; i < lines.size(); i++) {
            Matcher m = head.matcher(lines.get(i));
            if (!m.matches()) continue;
            StringBuilder body = new StringBuilder();
            while (++i < lines.size() && !lines.get(i).equals(m.group(1) + "}")) body.append(lines.get(i)).append('\n');
            check(bodies.put(m.group(2), body.toString()) == null, "two methods of one name: " + m.group(2));
        }
        return bodies;
    }

    /** The longest chain of calls from there on, recursion not counted. */
    private static List<String> deepest(String name, Map<String, String> bodies, List<String> above) {
        List<String> open = new ArrayList<>(above);
        open.add(name);
        List<String> deepest = open;
        Matcher m = Pattern.compile("\\b([a-z]\\w*)\\(").matcher(bodies.get(name));
        while (m.find()) {
            if (!bodies.containsKey(m.group(1)) || open.contains(m.group(1))) continue;
            List<String> chain = deepest(m.group(1), bodies, open);
            if (chain.size() > deepest.size()) deepest = chain;
        }
        return deepest;
    }

    public static void main(String[] args) throws Exception {
        face();
        source();
        System.out.println(wrong == 0 ? "the face is as due" : wrong + " things are not as due");
        if (wrong != 0) System.exit(1);
    }
}
