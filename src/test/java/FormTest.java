import java.io.IOException;
import java.lang.reflect.Constructor;
import java.lang.reflect.Field;
import java.lang.reflect.Method;
import java.lang.reflect.Modifier;
import java.nio.file.Files;
import java.nio.file.Path;
import java.util.ArrayList;
import java.util.List;
import java.util.TreeSet;

/** The public face, and what can be seen of LANGUAGE.md's rules from outside. */
public final class FormTest {
    private static final String FACE = "public int feed(long,long,long);public int town();public int evening();"
        + "public int lane(int,int);public int walker(int,int);public int way(int,int);public int next(int);"
        + "public int minute();public int send(int,int);public int waits(int);public boolean back(int);"
        + "public boolean undo();public int judged(int);public int darks(int);public int home(int);public int glow();"
        + "public int burns(int,int);public int delay(int);public int boys();public int alarm();public int blind();"
        + "public int meet(int,int);public int thief();public boolean watch(int,int,boolean);public int sets(int);"
        + "public int look(int);public int oil();public int share(int) throws java.util.NoSuchElementException;"
        + "public int longer(int);"
        + "public int rests(int,int,int,int) throws java.util.NoSuchElementException;"
        + "public int nights(int,int,int);public boolean mark(int,boolean);public int count(int)";
    private static final String[] NEVER = {"->", "::", "catch", "finally", "synchronized", "assert", "Exact(",
        "static {", "import java.util.List", "System.out", "Random", "MAX_VALUE", "MIN_VALUE", "String.format", "while (true)", "for (;;)",
        "protected", "\" +", "+ \"", "double", "float", "this::", "equals(", "hashCode", "toString"};

    public static void main(String[] args) throws IOException {
        face();
        insideClasses();
        List<String> lines = Files.readAllLines(Path.of(System.getProperty("source", "src/main/java/NextLight.java")));
        text(lines);
        lengths(lines);
        Check.finish();
    }

    private static void face() {
        TreeSet<String> due = new TreeSet<>(List.of(FACE.split(";")));
        TreeSet<String> found = new TreeSet<>();
        for (Method method : NextLight.class.getDeclaredMethods()) {
            if (!Modifier.isPrivate(method.getModifiers())) {
                found.add(method.toGenericString().replace("NextLight.", ""));
            } else {
                Check.due(method + " bears a public name", FACE.contains(" " + method.getName() + "("), false);
            }
        }
        Check.due("the methods " + found, found.equals(due), true);
        Constructor<?>[] made = NextLight.class.getDeclaredConstructors();
        Check.due("constructors", made.length, 1);
        Check.due("a public one", made[0].toString().equals("public NextLight()"), true);
        for (Field field : NextLight.class.getDeclaredFields()) {
            boolean hidden = Modifier.isPrivate(field.getModifiers());
            Check.due(field.toString(), hidden || field.toString().equals("public static final int NextLight.NONE"), true);
        }
        Check.due("public and final", NextLight.class.getModifiers(), Modifier.PUBLIC | Modifier.FINAL);
    }

    private static void insideClasses() {
        Class<?>[] inside = NextLight.class.getDeclaredClasses();
        Check.due("twelve classes at most", inside.length < 12, true);
        for (Class<?> one : inside) {
            Check.due(one + " is private and static", Modifier.isPrivate(one.getModifiers())
                && Modifier.isStatic(one.getModifiers()), true);
            int fields = 0;
            for (Field field : one.getDeclaredFields()) {
                fields += Modifier.isStatic(field.getModifiers()) ? 0 : 1;
                Check.due(field + " is no changing static", Modifier.isStatic(field.getModifiers())
                    && !Modifier.isFinal(field.getModifiers()), false);
            }
            Check.due("twenty fields at most in " + one, fields <= 20, true);
            for (Method method : one.getDeclaredMethods()) {
                Check.due(method + " bears a public name", FACE.contains(" " + method.getName() + "("), false);
                Check.due(method + " takes seven at most", method.getParameterCount() <= 7, true);
            }
        }
    }

    private static void text(List<String> lines) {
        int imports = 0;
        for (String line : lines) {
            String code = line.trim().startsWith("/**") ? "" : line;
            imports += code.startsWith("import ") ? 1 : 0;
            for (String never : NEVER) {
                Check.due("never " + never + ": " + line, code.contains(never), false);
            }
            Check.due("signs of ASCII: " + line, line.chars().allMatch(sign -> sign < 127), true);
        }
        Check.due("one import", imports, 1);
    }

    private static void lengths(List<String> lines) {
        List<Integer> opened = new ArrayList<>();
        for (int i = 0; i < lines.size(); i++) {
            String line = lines.get(i);
            boolean method = line.matches(" {4}( {4})?[a-z].*\\) (throws \\w+ )?\\{") && !line.contains(" class ");
            if (method) {
                opened.add(i);
            }
            if (line.matches(" {4}( {4})?\\}") && !opened.isEmpty()) {
                int start = opened.remove(opened.size() - 1);
                Check.due("sixty lines at most: " + lines.get(start), i - start <= 60, true);
                opened.clear();
            }
        }
    }
}
