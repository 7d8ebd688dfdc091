import java.io.IOException;
import java.lang.reflect.Constructor;
import java.lang.reflect.Field;
import java.lang.reflect.Method;
import java.lang.reflect.Modifier;
import java.nio.file.Files;
import java.nio.file.Path;
import java.util.ArrayList;
import java.util.List;
import java.util.Map;
import java.util.Set;
import java.util.TreeMap;
import java.util.TreeSet;
import java.util.regex.Matcher;
import java.util.regex.Pattern;

/** The public face as the document writes it, and those rules of LANGUAGE.md that can be seen without reading. */
public final class LanguageTest {
    private static final Path SOURCE = Path.of("src/main/java/RulesTried.java");
    private static final String[] FACE = {"int feed(int, int, int, int, int)", "int end(int)", "int rules(int)", "int fault(int)",
        "int person(int, int)", "int thing(int, int, int)", "boolean moves(int, int, int)", "boolean gives(int, int, int)",
        "int tell(int, int)", "int decide(int, int, int, int, int, boolean)", "int ask(int, int, int, int)", "boolean mark(int, int)",
        "int book(int, int)", "int tried(int)", "int decides(int, int)", "int lost(int, int, int)", "boolean idle(int, int)",
        "int more(int, int)", "int unlike(int, int, int)", "int mend(int)", "int change(int, int)", "int apply()",
        "int line(int, int, int)", "int count(int)", "boolean image(int)", "boolean again(int)"};
    private static final String[] BANNED = {"throw", "try", "catch", "synchronized", "assert", "protected", "native", "volatile", "yield",
        "Object", "System.out", "equals", "hashCode", "toString", "float", "double", "package", "static\\s*\\{", "->", "::", "\\w+Exact\\b"};

    private static void face() {
        Set<String> want = new TreeSet<>(Set.of(FACE));
        Set<String> found = new TreeSet<>();
        for (Method m : RulesTried.class.getDeclaredMethods()) {
            if (!Modifier.isPrivate(m.getModifiers()) && !m.isSynthetic()) {
                Checks.due("public, of an object: " + m, Modifier.isPublic(m.getModifiers()) && !Modifier.isStatic(m.getModifiers()), true);
                found.add(signature(m));
            }
        }
        Checks.due("the face is " + found, found.equals(want), true);
        for (Field f : RulesTried.class.getDeclaredFields()) {
            Checks.due("private, or NONE: " + f, Modifier.isPrivate(f.getModifiers()) || f.getName().equals("NONE"), true);
        }
        Constructor<?>[] constructors = RulesTried.class.getDeclaredConstructors();
        Checks.due("one constructor", constructors.length, 1);
        Checks.due("without parameters", constructors[0].getParameterCount(), 0);
        Checks.due("public and final", RulesTried.class.getModifiers(), Modifier.PUBLIC | Modifier.FINAL);
    }

    private static String signature(Method m) {
        StringBuilder text = new StringBuilder(m.getReturnType() + " " + m.getName() + "(");
        for (int i = 0; i < m.getParameterCount(); i++) {
            text.append(i == 0 ? "" : ", ").append(m.getParameterTypes()[i]);
        }
        return text.append(')').toString();
    }

    private static void classesInside() {
        Set<String> faceNames = new TreeSet<>();
        for (String method : FACE) {
            faceNames.add(method.substring(method.indexOf(' ') + 1, method.indexOf('(')));
        }
        Class<?>[] inside = RulesTried.class.getDeclaredClasses();
        Checks.due("at most twelve classes", inside.length < 12, true);
        for (Class<?> c : inside) {
            Checks.due("static, not public: " + c, Modifier.isStatic(c.getModifiers()) && !Modifier.isPublic(c.getModifiers()), true);
            members(c);
            for (Method m : c.getDeclaredMethods()) {
                Checks.due("a name of its own: " + m, faceNames.contains(m.getName()), false);
            }
        }
        members(RulesTried.class);
        for (Method m : RulesTried.class.getDeclaredMethods()) {
            Checks.due("a name of its own: " + m, Modifier.isPrivate(m.getModifiers()) && faceNames.contains(m.getName()), false);
        }
    }

    private static void members(Class<?> c) {
        int fields = 0;
        for (Field f : c.getDeclaredFields()) {
            boolean isStatic = Modifier.isStatic(f.getModifiers());
            fields += isStatic ? 0 : 1;
            Checks.due("static fields are final: " + f, isStatic && !Modifier.isFinal(f.getModifiers()), false);
        }
        Checks.due("at most twenty fields: " + c, fields <= 20, true);
        for (Method m : c.getDeclaredMethods()) {
            Checks.due("at most seven parameters: " + m, m.getParameterCount() <= 7, true);
        }
    }

    private static void source() throws IOException {
        String text = Files.readString(SOURCE);
        Checks.due("signs 1 to 127", text.chars().allMatch(c -> c > 0 && c < 128), true);
        String code = text.replaceAll("(?s)/\\*.*?\\*/", "").replaceAll("//[^\n]*", "").replaceAll("\"[^\"\n]*\"", "\"\"");
        for (String word : BANNED) {
            Matcher found = Pattern.compile(word.matches("\\w+") ? "\\b" + word + "\\b" : word).matcher(code);
            Checks.due("no '" + word + "' in the class", found.find(), false);
        }
        Matcher imports = Pattern.compile("import ([\\w.*]+);").matcher(code);
        while (imports.find()) {
            Checks.due("import " + imports.group(1), imports.group(1).equals("java.util.Arrays"), true);
        }
        Matcher methods = Pattern.compile("(?m)^( {4}| {8})(?! )[^\n;=]*\\) \\{\n(?s:.*?)\n\\1\\}").matcher(code);
        while (methods.find()) {
            long lines = methods.group().lines().count();
            Checks.due("at most sixty lines: " + methods.group().lines().findFirst().orElse(""), lines <= 60, true);
        }
    }

    /** Which methods' names stand in a method's body; methods of one name count as one, which can only tell too many. */
    private static Map<String, Set<String>> calls() throws IOException {
        String code = Files.readString(SOURCE).replaceAll("(?s)/\\*.*?\\*/", "").replaceAll("//[^\n]*", "");
        Map<String, Set<String>> calls = new TreeMap<>();
        Matcher methods = Pattern.compile("(?m)^( {4}| {8})(?! )[^\n;=]*?(\\w+)\\([^\n;=]*\\) \\{\n((?s:.*?))\n\\1\\}").matcher(code);
        while (methods.find()) {
            Set<String> called = calls.computeIfAbsent(methods.group(2), name -> new TreeSet<>());
            Matcher names = Pattern.compile("(\\w+)\\(").matcher(methods.group(3));
            while (names.find()) {
                called.add(names.group(1));
            }
        }
        return calls;
    }

    /** The longest row of calls from here on, none of them twice. */
    private static List<String> deepest(String name, List<String> open, Map<String, Set<String>> calls) {
        if (!calls.containsKey(name) || open.contains(name)) {
            return open;
        }
        List<String> now = new ArrayList<>(open);
        now.add(name);
        List<String> longest = now;
        for (String called : calls.get(name)) {
            List<String> row = deepest(called, now, calls);
            longest = row.size() > longest.size() ? row : longest;
        }
        return longest;
    }

    private static void depth() throws IOException {
        Map<String, Set<String>> calls = calls();
        for (String method : FACE) {
            String name = method.substring(method.indexOf(' ') + 1, method.indexOf('('));
            List<String> row = deepest(name, List.of(), calls);
            Checks.due("found: " + name, row.isEmpty(), false);
            Checks.due("at most eight deep: " + row, row.size() <= 8, true);
        }
    }

    public static void main(String[] args) throws IOException {
        face();
        classesInside();
        source();
        depth();
        Checks.finish();
    }
}
