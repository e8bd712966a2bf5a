/** What the tests share: answers that are due, calls that are refused, and an object's answers as a text. */
final class Check {
    interface Call {
        long on(Codewordcable x);
    }

    interface Scene {
        Codewordcable made();
    }

    static final Class<?> INDEX = IndexOutOfBoundsException.class;
    static final Class<?> ARGUMENT = IllegalArgumentException.class;
    static final Class<?> STATE = IllegalStateException.class;

    private int count = 0;
    private int wrong = 0;

    void due(String what, long got, long want) {
        count++;
        if (got != want) {
            wrong++;
            System.out.println(what + " answered " + got + ", due is " + want);
        }
    }

    void due(String what, boolean got, boolean want) {
        due(what, got ? 1 : 0, want ? 1 : 0);
    }

    /** The call throws just this exception, and the object answers as one on which it was not called. */
    void refused(String what, Class<?> kind, Scene scene, Call call) {
        count++;
        Codewordcable x = scene.made();
        String got = outcome(x, call);
        if (!got.equals(kind.getSimpleName())) {
            wrong++;
            System.out.println(what + " answered " + got + ", due is " + kind.getSimpleName());
            return;
        }
        String before = told(scene.made());
        String after = told(x);
        if (!before.equals(after)) {
            wrong++;
            System.out.println(what + " threw and changed: " + after + ", without it: " + before);
        }
    }

    void end() {
        System.out.println(count + " checks, " + wrong + " wrong");
        if (wrong > 0 || count == 0) {
            System.exit(1);
        }
    }

    static String outcome(Codewordcable x, Call call) {
        try {
            return Long.toString(call.on(x));
        } catch (RuntimeException e) {
            return e.getClass().getSimpleName();
        }
    }

    /** Some 250 answers, the last of them of calls that change the object: it is of no use then. */
    static String told(Codewordcable x) {
        StringBuilder all = new StringBuilder();
        for (int i = 0; i < 8; i++) {
            int office = i;
            tell(all, x, y -> y.account(office));
            tell(all, x, y -> y.accountAnew(office));
            tell(all, x, y -> y.words(office, false));
            tell(all, x, y -> y.words(office, true));
        }
        for (int i = 0; i < 3; i++) {
            tellMessage(all, x, i);
        }
        for (int i = 0; i < 12; i++) {
            int cable = i;
            tell(all, x, y -> y.broken(cable, false));
        }
        tell(all, x, y -> y.candidates(0));
        tell(all, x, y -> y.candidate(0, 0));
        tellChanges(all, x);
        return all.toString();
    }

    private static void tellMessage(StringBuilder all, Codewordcable x, int message) {
        for (int i = 0; i < 6; i++) {
            int what = i;
            tell(all, x, y -> y.ofMessage(message, what));
        }
        for (int i = 0; i < 4; i++) {
            int place = i;
            tell(all, x, y -> y.word(message, place, true));
            tell(all, x, y -> y.word(message, place, false));
            tell(all, x, y -> y.read(message, place));
        }
        tell(all, x, y -> y.claim(message));
    }

    private static void tellChanges(StringBuilder all, Codewordcable x) {
        for (int i = 0; i < 8; i++) {
            int office = i;
            tell(all, x, y -> y.key(office, 1));
            tell(all, x, y -> y.forbid(office, false) ? 1 : 0);
            tell(all, x, y -> y.reserve(office, 1));
        }
        tell(all, x, y -> y.idea(1));
        tell(all, x, y -> y.entry(11881375, 0, 0, 0, 0));
        tell(all, x, y -> y.office());
        tell(all, x, y -> y.cable(0, 1, 1, 1));
        tell(all, x, y -> y.conference(0, 5, 5, 0));
        tell(all, x, y -> y.draft(0));
        tell(all, x, y -> y.send(0, 1, Codewordcable.DEFERRED, true));
        tell(all, x, y -> y.pass(1));
        tellMessage(all, x, 0);
    }

    private static void tell(StringBuilder all, Codewordcable x, Call call) {
        all.append(outcome(x, call)).append(' ');
    }

    /** The number of a code word. */
    static int code(String letters) {
        int number = 0;
        for (int i = 0; i < letters.length(); i++) {
            number = number * 26 + letters.charAt(i) - 'a';
        }
        return number;
    }

    static void ideas(Codewordcable x, int... letters) {
        for (int many : letters) {
            x.idea(many);
        }
    }

    static void offices(Codewordcable x, int many) {
        for (int i = 0; i < many; i++) {
            x.office();
        }
    }

    static void drafts(Codewordcable x, int... ideas) {
        for (int idea : ideas) {
            x.draft(idea);
        }
    }
}
