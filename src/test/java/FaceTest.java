import java.io.IOException;
import java.lang.reflect.Constructor;
import java.lang.reflect.Field;
import java.lang.reflect.Method;
import java.lang.reflect.Modifier;
import java.nio.file.Files;
import java.nio.file.Path;
import java.util.ArrayList;
import java.util.List;
import java.util.Set;
import java.util.TreeSet;

/** The public face of the document, and the rules of LANGUAGE.md that can be counted. */
public final class FaceTest {
    private static final Class<?> I = int.class;
    private static final Class<?> B = boolean.class;
    private static final Check check = new Check();
    private static final Set<String> names = new TreeSet<>();

    public static void main(String[] args) throws IOException {
        face();
        nothingElse();
        sizes(Codewordcable.class);
        for (Class<?> inside : Codewordcable.class.getDeclaredClasses()) {
            sizes(inside);
        }
        check.due("classes in the file, 12 at most", 1 + Codewordcable.class.getDeclaredClasses().length <= 12, true);
        source();
        check.end();
    }

    private static void face() {
        method("idea", I, "AS", I);
        method("entry", I, "XAS", I, I, I, I, I);
        method("candidates", I, "A", I);
        method("candidate", I, "XA", I, I);
        method("office", I, "S");
        method("cable", I, "XAS", I, I, I, I);
        method("broken", I, "X", I, B);
        method("forbid", B, "X", I, B);
        method("key", I, "XA", I, I);
        method("conference", I, "AS", I, I, I, I);
        method("reserve", I, "X", I, I);
        method("draft", I, "XS", I);
        method("words", I, "X", I, B);
        method("send", I, "XAS", I, I, I, B);
        method("wrong", I, "XAS", I, I, I, I);
        method("pass", I, "AS", I);
        method("rest", I, "AS", I);
        method("ofMessage", I, "XA", I, I);
        method("word", I, "X", I, I, B);
        method("read", I, "X", I, I);
        method("claim", I, "X", I);
        method("account", I, "X", I);
        method("accountAnew", I, "X", I);
    }

    private static void method(String name, Class<?> answer, String thrown, Class<?>... parameters) {
        names.add(name);
        try {
            Method found = Codewordcable.class.getDeclaredMethod(name, parameters);
            check.due(name + " is public", found.getModifiers(), Modifier.PUBLIC);
            check.due(name + " answers as told", found.getReturnType() == answer, true);
            StringBuilder kinds = new StringBuilder();
            for (Class<?> kind : found.getExceptionTypes()) {
                kinds.append(kind == Check.INDEX ? 'X' : kind == Check.ARGUMENT ? 'A' : 'S');
            }
            check.due(name + " names what it throws", kinds.toString().equals(thrown), true);
        } catch (NoSuchMethodException e) {
            check.due(name + " is there", false, true);
        }
    }

    private static void nothingElse() {
        int open = Modifier.PUBLIC | Modifier.FINAL;
        check.due("the class is public and final", Codewordcable.class.getModifiers(), open);
        for (Method method : Codewordcable.class.getDeclaredMethods()) {
            boolean named = names.contains(method.getName());
            check.due(method + " is of the face or private", named != Modifier.isPrivate(method.getModifiers()), true);
        }
        check.due("methods of the face", names.size(), 23);
        Set<String> constants = Set.of("NONE", "UNCLEAR", "DEFERRED", "ORDINARY", "URGENT",
                "UNDERWAY", "DELIVERED", "STOPPED");
        for (Field field : Codewordcable.class.getDeclaredFields()) {
            int want = constants.contains(field.getName()) ? open | Modifier.STATIC : Modifier.PRIVATE;
            check.due(field + " is of the face or private", field.getModifiers() & want, want);
        }
        Constructor<?>[] made = Codewordcable.class.getDeclaredConstructors();
        check.due("one constructor", made.length, 1);
        check.due("without parameters", made[0].getParameterCount(), 0);
    }

    private static void sizes(Class<?> counted) {
        int fields = 0;
        for (Field field : counted.getDeclaredFields()) {
            boolean fixed = Modifier.isStatic(field.getModifiers());
            fields += fixed ? 0 : 1;
            check.due(field + " is final if it is static", !fixed || Modifier.isFinal(field.getModifiers()), true);
        }
        check.due(counted + " has 20 fields at most", fields <= 20, true);
        for (Method method : counted.getDeclaredMethods()) {
            check.due(method + " has 7 parameters at most", method.getParameterCount() <= 7, true);
            if (counted != Codewordcable.class) {
                check.due(method + " bears no name of the face", names.contains(method.getName()), false);
            }
        }
        for (Constructor<?> made : counted.getDeclaredConstructors()) {
            check.due(made + " has 7 parameters at most", made.getParameterCount() <= 7, true);
        }
    }

    private static void source() throws IOException {
        List<String> lines = Files.readAllLines(Path.of("src/main/java/Codewordcable.java"));
        String[] ruledOut = {"->", "::", "catch", "finally", "synchronized", "assert", "instanceof", "System.",
            "import ", ".toString", "hashCode", "record ", "var ", "%n", "Exact"};
        List<String> found = new ArrayList<>();
        for (String line : lines) {
            for (String word : ruledOut) {
                if (line.contains(word) && !line.equals("import java.util.Arrays;")) {
                    found.add(line);
                }
            }
        }
        check.due("lines with what is ruled out " + found, found.size(), 0);
        check.due("no method above 60 lines", longestStretch(lines) <= 60, true);
    }

    /** Between two methods there is an empty line, so no method is longer than the longest stretch without one. */
    private static int longestStretch(List<String> lines) {
        int longest = 0;
        int length = 0;
        for (String line : lines) {
            length = line.isBlank() ? 0 : length + 1;
            longest = Math.max(longest, length);
        }
        return longest;
    }
}
