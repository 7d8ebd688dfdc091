import java.io.IOException;
import java.lang.reflect.Method;
import java.lang.reflect.Modifier;
import java.nio.file.Files;
import java.nio.file.Path;
import java.util.ArrayList;
import java.util.HashMap;
import java.util.List;
import java.util.Map;
import java.util.regex.Matcher;
import java.util.regex.Pattern;

/** README.md tells what holds: its examples are run, line by line, and its table has every call of the class. */
public final class ReadmeTest {
    private static final Pattern NEW = Pattern.compile("RulesTried bench = new RulesTried\\(\\);");
    private static final Pattern PUT = Pattern.compile("put\\(bench, \"([^\"]*)\"\\);");
    private static final Pattern CALL = Pattern.compile("(?:int (\\w+) = )?bench\\.(\\w+)\\(([^)]*)\\);\\s+// (\\S+?):?(?: .*)?");
    private static final Pattern ROW = Pattern.compile("\\| `(\\w+)\\(([^)]*)\\)` \\|.*");

    private final Map<String, Object> names = new HashMap<>();
    private RulesTried bench = null;

    private ReadmeTest() {
        names.put("NONE", RulesTried.NONE);
        names.put("true", true);
        names.put("false", false);
    }

    private Object value(String word) {
        return names.containsKey(word) ? names.get(word) : Integer.decode(word);
    }

    private static Method method(String name) {
        for (Method method : RulesTried.class.getDeclaredMethods()) {
            if (Modifier.isPublic(method.getModifiers()) && method.getName().equals(name)) {
                return method;
            }
        }
        return null;
    }

    private static String[] words(String list) {
        return list.isEmpty() ? new String[0] : list.split(", ");
    }

    private void call(String line, Matcher found) throws ReflectiveOperationException {
        String[] words = words(found.group(3));
        Object[] values = new Object[words.length];
        for (int i = 0; i < words.length; i++) {
            values[i] = value(words[i]);
        }
        Object got = method(found.group(2)).invoke(bench, values);
        Object want = value(found.group(4));
        Checks.due(line + " | answered " + got + ":", got.equals(want), true);
        if (found.group(1) != null) {
            names.put(found.group(1), got);
        }
    }

    private void run(String line) throws ReflectiveOperationException {
        Matcher call = CALL.matcher(line);
        Matcher put = PUT.matcher(line);
        if (NEW.matcher(line).matches()) {
            bench = new RulesTried();
        } else if (put.matches()) {
            Checks.put(bench, put.group(1));
        } else if (call.matches()) {
            call(line, call);
        } else {
            Checks.due("understood: " + line, line.isEmpty() || line.startsWith("//"), true);
        }
    }

    private static List<String> block(List<String> page, String fence) {
        List<String> found = new ArrayList<>();
        boolean inside = false;
        for (String line : page) {
            if (line.startsWith("```")) {
                inside = line.equals(fence);
            } else if (inside) {
                found.add(line);
            }
        }
        return found;
    }

    /** The sample of the language reads; behind a line's ';' stands what is said of it. */
    private static void sample(List<String> page) {
        StringBuilder text = new StringBuilder();
        for (String line : block(page, "```text")) {
            text.append(line, 0, line.indexOf(';') + 1).append('\n');
        }
        Checks.reads(text.toString(), 3);
    }

    private static void table(List<String> page) {
        Map<String, Integer> told = new HashMap<>();
        for (String line : page) {
            Matcher row = ROW.matcher(line);
            if (row.matches()) {
                told.put(row.group(1), words(row.group(2)).length);
            }
        }
        Checks.due("the constructor is told", told.getOrDefault("RulesTried", -1), 0);
        for (Method method : RulesTried.class.getDeclaredMethods()) {
            if (Modifier.isPublic(method.getModifiers())) {
                Checks.due("parameters told of " + method.getName(), told.getOrDefault(method.getName(), -1),
                    method.getParameterCount());
            }
        }
        Checks.due("rows of the table", told.size(), 27);
    }

    public static void main(String[] args) throws IOException, ReflectiveOperationException {
        List<String> page = Files.readAllLines(Path.of("README.md"));
        ReadmeTest test = new ReadmeTest();
        for (String line : block(page, "```java")) {
            test.run(line);
        }
        Checks.due("there is an example", test.bench != null, true);
        sample(page);
        table(page);
        Checks.finish();
    }
}
