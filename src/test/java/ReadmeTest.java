import java.lang.reflect.Method;
import java.nio.file.Files;
import java.nio.file.Path;
import java.util.ArrayList;
import java.util.List;
import java.util.regex.Matcher;
import java.util.regex.Pattern;

/** README.md is right: every call of its examples gives the answer that stands behind it, and no call is left out. */
public final class ReadmeTest {
    private static final Path README = Path.of("README.md");
    private static final Pattern NEW = Pattern.compile("PourPlan x = new PourPlan\\(\\);.*");
    private static final Pattern CALL = Pattern.compile("x\\.(\\w+)\\(([^)]*)\\);\\s*// (-?\\d+|[A-Z]+)\\b.*");
    private static int wrong = 0;
    private static int calls = 0;

    private static void fault(String what) {
        wrong++;
        System.out.println(what);
    }

    private static List<String> exampleLines(List<String> lines) {
        List<String> example = new ArrayList<>();
        boolean inside = false;
        for (String line : lines) {
            if (line.startsWith("```")) inside = line.equals("```java");
            else if (inside && !line.isBlank()) example.add(line.trim());
        }
        return example;
    }

    private static Object[] arguments(String text) {
        if (text.isBlank()) return new Object[0];
        String[] parts = text.split(",");
        Object[] values = new Object[parts.length];
        for (int i = 0; i < parts.length; i++) {
            String part = parts[i].trim();
            boolean isTruth = part.equals("true") || part.equals("false");
            values[i] = isTruth ? (Object) Boolean.valueOf(part) : (Object) Integer.valueOf(part);
        }
        return values;
    }

    private static int answerDue(String text) throws Exception {
        return Character.isLetter(text.charAt(0)) ? PourPlan.class.getField(text).getInt(null) : Integer.parseInt(text);
    }

    private static Method method(String name) {
        for (Method m : PourPlan.class.getMethods()) {
            if (m.getDeclaringClass() == PourPlan.class && m.getName().equals(name)) return m;
        }
        return null;
    }

    private static void runExamples(List<String> example) throws Exception {
        PourPlan x = null;
        for (String line : example) {
            if (NEW.matcher(line).matches()) {
                x = new PourPlan();
                continue;
            }
            Matcher m = CALL.matcher(line);
            if (x == null || !m.matches() || method(m.group(1)) == null) {
                fault("no call with its answer: " + line);
                continue;
            }
            calls++;
            int got = (Integer) method(m.group(1)).invoke(x, arguments(m.group(2)));
            if (got != answerDue(m.group(3))) fault("answered " + got + ": " + line);
        }
    }

    /** Each method has a row of its own in the tables. */
    private static void rowsForAll(List<String> lines) {
        for (Method m : PourPlan.class.getDeclaredMethods()) {
            if (!java.lang.reflect.Modifier.isPublic(m.getModifiers())) continue;
            boolean told = lines.stream().anyMatch(line -> line.startsWith("| `" + m.getName() + "("));
            if (!told) fault("not told: " + m.getName());
        }
    }

    private static void testsAreTold(String text) throws Exception {
        try (var files = Files.list(Path.of("src/test/java"))) {
            for (Path file : (Iterable<Path>) files::iterator) {
                String name = file.getFileName().toString();
                if (name.endsWith(".java") && !text.contains("`" + name.replace(".java", "") + "`")) fault("not told: " + name);
            }
        }
    }

    public static void main(String[] args) throws Exception {
        List<String> lines = Files.readAllLines(README);
        runExamples(exampleLines(lines));
        rowsForAll(lines);
        testsAreTold(String.join("\n", lines));
        if (calls == 0) fault("no examples");
        System.out.println(calls + " calls of README.md, " + wrong + " things are not as due");
        if (wrong != 0) System.exit(1);
    }
}
