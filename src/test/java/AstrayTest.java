import java.lang.reflect.InvocationTargetException;
import java.lang.reflect.Method;
import java.lang.reflect.Modifier;
import java.util.List;

/** Whatever the arguments, in whatever state: a call throws nothing but what its line of the document names. */
public final class AstrayTest {
    private static final int[] NUMBERS = {Integer.MIN_VALUE, Integer.MIN_VALUE + 1, -41, -2, -1, 0, 1, 5, 7, 8, 11, 12,
        24, 29, 30, 39, 40, 59, 60, 61, 11881375, 11881376, 1 << 30, Integer.MAX_VALUE - 1, Integer.MAX_VALUE};
    private static final int[] FEW = {Integer.MIN_VALUE, -1, 0, 1, 40, Integer.MAX_VALUE};
    /** A scene and the calls after it stay below 512 together. */
    private static final int CALLS = 120;
    private static final List<Check.Scene> SCENES = List.of(Codewordcable::new, Scenes::middle, Scenes::fullOfIdeas,
            Scenes::fullOfEntries, Scenes::fullOfOffices, Scenes::fullOfCables, Scenes::fullOfConferences,
            Scenes::fullDraft, Scenes::fullOfMessages, () -> Scenes.atMinute(1000000));
    private static final Check check = new Check();
    private static Codewordcable x;
    private static int callsLeft;

    public static void main(String[] args) throws IllegalAccessException {
        for (Check.Scene scene : SCENES) {
            for (Method method : Codewordcable.class.getDeclaredMethods()) {
                if (Modifier.isPublic(method.getModifiers())) {
                    callsLeft = 0;
                    astray(scene, method, new Object[method.getParameterCount()], 0);
                }
            }
        }
        check.end();
    }

    /** Fills the arguments from a place on with each of the numbers. */
    private static void astray(Check.Scene scene, Method method, Object[] arguments, int place)
            throws IllegalAccessException {
        if (place == arguments.length) {
            call(scene, method, arguments);
            return;
        }
        if (method.getParameterTypes()[place] == boolean.class) {
            for (boolean is : new boolean[] {false, true}) {
                arguments[place] = is;
                astray(scene, method, arguments, place + 1);
            }
            return;
        }
        for (int number : arguments.length > 2 ? FEW : NUMBERS) {
            arguments[place] = number;
            astray(scene, method, arguments, place + 1);
        }
    }

    private static void call(Check.Scene scene, Method method, Object[] arguments) throws IllegalAccessException {
        if (callsLeft == 0) {
            x = scene.made();
            callsLeft = CALLS;
        }
        callsLeft--;
        try {
            method.invoke(x, arguments);
        } catch (InvocationTargetException e) {
            Class<?> thrown = e.getCause().getClass();
            check.due(method.getName() + " " + List.of(arguments) + " throws " + thrown.getSimpleName(),
                    List.of(method.getExceptionTypes()).contains(thrown), true);
        }
    }
}
