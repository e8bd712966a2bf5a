import java.lang.reflect.Constructor;
import java.lang.reflect.Field;
import java.lang.reflect.Method;
import java.lang.reflect.Modifier;
import java.util.Set;
import java.util.TreeSet;

/** The public face of the document: its constants, its constructor, its methods and what they name to throw. */
public final class FaceTest {
    private static final Class<?> I = int.class;
    private static final Class<?> B = boolean.class;
    private static final Check check = new Check();
    private static final Set<String> names = new TreeSet<>();

    public static void main(String[] args) {
        face();
        nothingElse();
        for (Class<?> held : Codewordcable.class.getDeclaredClasses()) {
            inside(held);
        }
        check.end();
    }

    private static void face() {
        method("idea", I, "AS", I);
        method("entry", I, "XAS", I, I, I, I, I);
        method("candidates", I, "A", I);
        method("candidate", I, "XA", I, I);
        method("office", I, "S");
        method("cable", I, "XAS", I, I, I, I);
        method("broken", I, "X", I, B);
        method("forbid", B, "X", I, B);
        method("key", I, "XA", I, I);
        method("conference", I, "AS", I, I, I, I);
        method("reserve", I, "X", I, I);
        method("draft", I, "XS", I);
        method("words", I, "X", I, B);
        method("send", I, "XAS", I, I, I, B);
        method("wrong", I, "XAS", I, I, I, I);
        method("pass", I, "AS", I);
        method("rest", I, "AS", I);
        method("ofMessage", I, "XA", I, I);
        method("word", I, "X", I, I, B);
        method("read", I, "X", I, I);
        method("claim", I, "X", I);
        method("account", I, "X", I);
        method("accountAnew", I, "X", I);
    }

    private static void method(String name, Class<?> answer, String thrown, Class<?>... parameters) {
        names.add(name);
        try {
            Method found = Codewordcable.class.getDeclaredMethod(name, parameters);
            check.due(name + " is public", found.getModifiers(), Modifier.PUBLIC);
            check.due(name + " answers as told", found.getReturnType() == answer, true);
            StringBuilder kinds = new StringBuilder();
            for (Class<?> kind : found.getExceptionTypes()) {
                kinds.append(kind == Check.INDEX ? 'X' : kind == Check.ARGUMENT ? 'A' : 'S');
            }
            check.due(name + " names what it throws", kinds.toString().equals(thrown), true);
        } catch (NoSuchMethodException e) {
            check.due(name + " is there", false, true);
        }
    }

    private static void nothingElse() {
        int open = Modifier.PUBLIC | Modifier.FINAL;
        check.due("the class is public and final", Codewordcable.class.getModifiers(), open);
        for (Method method : Codewordcable.class.getDeclaredMethods()) {
            boolean named = names.contains(method.getName());
            check.due(method + " is of the face or private", named != Modifier.isPrivate(method.getModifiers()), true);
        }
        check.due("methods of the face", names.size(), 23);
        Set<String> constants = Set.of("NONE", "UNCLEAR", "DEFERRED", "ORDINARY", "URGENT",
                "UNDERWAY", "DELIVERED", "STOPPED");
        int found = 0;
        for (Field field : Codewordcable.class.getDeclaredFields()) {
            boolean named = constants.contains(field.getName());
            found += named && field.getType() == I ? 1 : 0;
            int want = named ? open | Modifier.STATIC : Modifier.PRIVATE;
            check.due(field + " is of the face or private", field.getModifiers() & want, want);
        }
        check.due("constants that are int", found, constants.size());
        Constructor<?>[] made = Codewordcable.class.getDeclaredConstructors();
        check.due("one constructor", made.length, 1);
        check.due("without parameters", made[0].getParameterCount(), 0);
        check.due("that is public", made[0].getModifiers(), Modifier.PUBLIC);
    }

    /** Rule 1 of LANGUAGE.md, as far as the classes inside go. */
    private static void inside(Class<?> held) {
        check.due(held + " is not public", Modifier.isPublic(held.getModifiers()), false);
        for (Method method : held.getDeclaredMethods()) {
            check.due(method + " bears no name of the face", names.contains(method.getName()), false);
        }
    }
}
