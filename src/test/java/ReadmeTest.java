import java.io.IOException;
import java.lang.reflect.InvocationTargetException;
import java.lang.reflect.Method;
import java.lang.reflect.Modifier;
import java.nio.file.Files;
import java.nio.file.Path;
import java.util.HashMap;
import java.util.HashSet;
import java.util.List;
import java.util.Map;
import java.util.Set;
import java.util.regex.Matcher;
import java.util.regex.Pattern;

/** The examples of README.md: each of their lines is called, and its answer is due to be the one that stands behind it. */
public final class ReadmeTest {
    private static final int MOST_CALLS = 512;
    private static final Pattern MADE = Pattern.compile(" {4}NextLight x = new NextLight\\(\\);");
    private static final Pattern TOLD = Pattern.compile(" {4}tell\\(x, \"(.*)\"\\); *// (\\d+).*");
    private static final Pattern CALLED = Pattern.compile(" {4}x\\.(\\w+)\\((.*?)\\); *// ([-\\w]+).*");

    private final Map<String, Method> face = new HashMap<>();
    private final Set<String> used = new HashSet<>();
    private NextLight x;
    private int calls;

    private ReadmeTest() {
        for (Method method : NextLight.class.getDeclaredMethods()) {
            if (Modifier.isPublic(method.getModifiers())) {
                face.put(method.getName(), method);
            }
        }
    }

    public static void main(String[] args) throws IOException, IllegalAccessException {
        String page = Files.readString(Path.of(System.getProperty("readme", "README.md")));
        ReadmeTest test = new ReadmeTest();
        for (String line : page.split("\n")) {
            test.follow(line);
        }
        for (String call : test.face.keySet()) {
            Check.due("README.md uses " + call, test.used.contains(call), true);
        }
        String helper = Files.readString(Path.of(System.getProperty("readme", "README.md")).resolveSibling("src/test/java/Check.java"));
        Check.due("tell is as in Check.java", page.contains(cut(helper, "    static int tell(")), true);
        Check.due("eight is as in Check.java", page.contains(cut(helper, "    private static long eight(")), true);
        tests(page);
        Check.finish();
    }

    private static String cut(String text, String from) {
        int start = text.indexOf(from);
        return text.substring(start, text.indexOf("\n    }\n", start));
    }

    /** Every test of the project stands in the page's table. */
    private static void tests(String page) throws IOException {
        Path tests = Path.of(System.getProperty("readme", "README.md")).resolveSibling("src/test/java");
        try (var files = Files.list(tests)) {
            for (Path file : (Iterable<Path>) files::iterator) {
                String name = file.getFileName().toString().replace(".java", "");
                if (name.endsWith("Test")) {
                    Check.due("README.md tells of " + name, page.contains("| " + name + " |"), true);
                }
            }
        }
    }

    private void follow(String line) throws IllegalAccessException {
        Matcher told = TOLD.matcher(line);
        Matcher called = CALLED.matcher(line);
        if (MADE.matcher(line).matches()) {
            x = new NextLight();
            calls = 0;
        } else if (told.matches()) {
            Check.due(line, Check.tell(x, told.group(1)), Integer.parseInt(told.group(2)));
            calls += told.group(1).length() / 24 + 2;
        } else if (called.matches()) {
            Check.same(line, answer(called.group(1), called.group(2)), called.group(3));
            calls++;
        } else {
            Check.due("a call without an answer: " + line, line.matches(" {4}(x\\.|tell\\().*"), false);
        }
        Check.due("calls of one object", calls <= MOST_CALLS, true);
    }

    private String answer(String name, String given) throws IllegalAccessException {
        Method method = face.get(name);
        used.add(name);
        if (method == null) {
            return "no such call";
        }
        List<String> words = given.isEmpty() ? List.of() : List.of(given.split(", "));
        Class<?>[] types = method.getParameterTypes();
        Object[] values = new Object[types.length];
        for (int i = 0; i < types.length && i < words.size(); i++) {
            values[i] = value(types[i], words.get(i));
        }
        try {
            return String.valueOf(method.invoke(x, values));
        } catch (InvocationTargetException e) {
            return e.getCause().getClass().getSimpleName();
        }
    }

    private static Object value(Class<?> type, String word) {
        if (type == boolean.class) {
            return Boolean.valueOf(word);
        }
        long number = Long.decode(word.replace("L", ""));
        if (type == long.class) {
            return number;
        }
        return (int) number;
    }
}
