/** What the tests share: answers that are due, calls that are refused, and an object's answers as a text. */
final class Check {
    interface Call {
        long on(Codewordcable x);
    }

    interface CallWith {
        long on(Codewordcable x, int number);
    }

    interface Scene {
        Codewordcable made();
    }

    /** Asks an object much, and changes it then: each probe has an object of its own, of 512 calls at most. */
    private interface Probe {
        String of(Codewordcable x);
    }

    static final Class<?> INDEX = IndexOutOfBoundsException.class;
    static final Class<?> ARGUMENT = IllegalArgumentException.class;
    static final Class<?> STATE = IllegalStateException.class;

    private static final Probe[] PROBES = {Check::asked, Check::setAnew, Check::ruledOn, Check::toldMore,
        Check::wentOn, Check::sentOn};

    private int count = 0;
    private int wrong = 0;

    void due(String what, long got, long want) {
        count++;
        if (got != want) {
            wrong++;
            System.out.println(what + " answered " + got + ", due is " + want);
        }
    }

    void due(String what, boolean got, boolean want) {
        due(what, got ? 1 : 0, want ? 1 : 0);
    }

    void due(String what, String got, String want) {
        count++;
        if (!got.equals(want)) {
            wrong++;
            System.out.println(what + " answered " + got + ", due is " + want);
        }
    }

    /** The call throws just this exception, and the object answers as one on which it was not called. */
    void refused(String what, Class<?> kind, Scene scene, Call call) {
        for (Probe probe : PROBES) {
            count++;
            Codewordcable x = scene.made();
            String got = outcome(x, call);
            if (!got.equals(kind.getSimpleName())) {
                wrong++;
                System.out.println(what + " answered " + got + ", due is " + kind.getSimpleName());
                return;
            }
            same(what + " threw and changed", probe.of(x), probe.of(scene.made()));
        }
    }

    /** Objects of both scenes answer alike. */
    void alike(String what, Scene first, Scene second) {
        for (Probe probe : PROBES) {
            count++;
            same(what + " changed", probe.of(first.made()), probe.of(second.made()));
        }
    }

    private void same(String what, String after, String without) {
        if (!after.equals(without)) {
            wrong++;
            System.out.println(what + ": " + after + ", without it: " + without);
        }
    }

    /** The call is not refused. */
    void taken(String what, Scene scene, Call call) {
        count++;
        String got = outcome(scene.made(), call);
        if (got.endsWith("Exception")) {
            wrong++;
            System.out.println(what + " threw " + got);
        }
    }

    /** The lowest and the highest number are taken; what is below or above is refused and changes nothing. */
    void range(String what, Class<?> kind, int lowest, int highest, Scene scene, CallWith call) {
        int[] inside = {lowest, highest};
        int[] outside = {lowest - 1, highest + 1, Integer.MIN_VALUE, Integer.MAX_VALUE};
        for (int number : inside) {
            taken(what + " " + number, scene, y -> call.on(y, number));
        }
        for (int number : outside) {
            refused(what + " " + number, kind, scene, y -> call.on(y, number));
        }
    }

    void end() {
        System.out.println(count + " checks, " + wrong + " wrong");
        if (wrong > 0 || count == 0) {
            System.exit(1);
        }
    }

    static String outcome(Codewordcable x, Call call) {
        try {
            return Long.toString(call.on(x));
        } catch (RuntimeException e) {
            return e.getClass().getSimpleName();
        }
    }

    /** What an object answers without a change. */
    private static String asked(Codewordcable x) {
        StringBuilder all = new StringBuilder();
        for (int i = 0; i < 8; i++) {
            int office = i;
            tell(all, x, y -> y.account(office));
            tell(all, x, y -> y.accountAnew(office));
            tell(all, x, y -> y.words(office, false));
            tell(all, x, y -> y.words(office, true));
        }
        for (int i = 0; i < 4; i++) {
            tellMessage(all, x, i);
        }
        tellMessage(all, x, 59);
        for (String letters : Scenes.BOOK) {
            tell(all, x, y -> y.candidates(code(letters)));
            tell(all, x, y -> y.candidate(code(letters), 0));
        }
        tell(all, x, y -> y.candidates(0));
        tell(all, x, y -> y.candidates(Scenes.LAST_CODE));
        return all.toString();
    }

    private static void tellMessage(StringBuilder all, Codewordcable x, int message) {
        for (int i = 0; i < 6; i++) {
            int what = i;
            tell(all, x, y -> y.ofMessage(message, what));
        }
        for (int i = 0; i < 5; i++) {
            int place = i;
            tell(all, x, y -> y.word(message, place, true));
            tell(all, x, y -> y.word(message, place, false));
            tell(all, x, y -> y.read(message, place));
        }
        tell(all, x, y -> y.claim(message));
    }

    /** What is reserved and what is set at each office. */
    private static String setAnew(Codewordcable x) {
        StringBuilder all = new StringBuilder();
        for (int i = 0; i < 48; i++) {
            int office = i / 12;
            int latestLeft = 12 - i % 12;
            tell(all, x, y -> y.reserve(office, latestLeft));
        }
        for (int i = 0; i < 8; i++) {
            int office = i;
            tell(all, x, y -> y.key(office, 1));
            tell(all, x, y -> y.forbid(office, false) ? 1 : 0);
        }
        return all.toString();
    }

    /** Which rules count at each office on the next days. */
    private static String ruledOn(Codewordcable x) {
        StringBuilder all = new StringBuilder();
        tell(all, x, y -> y.draft(0));
        for (int i = 0; i < 4; i++) {
            for (int j = 0; j < 4; j++) {
                int office = j;
                tell(all, x, y -> y.words(office, false));
                tell(all, x, y -> y.words(office, true));
            }
            tell(all, x, y -> y.rest(1));
        }
        return all.toString();
    }

    /** What the next number of each thing is. */
    private static String toldMore(Codewordcable x) {
        StringBuilder all = new StringBuilder();
        tell(all, x, y -> y.draft(0));
        tell(all, x, y -> y.words(0, false));
        tell(all, x, y -> y.idea(1));
        tell(all, x, y -> y.entry(code("qrstu"), 0, 1, 0, 1));
        tell(all, x, y -> y.office());
        tell(all, x, y -> y.cable(0, 1, 1, 1));
        tell(all, x, y -> y.conference(0, 5, 5, 0));
        tell(all, x, y -> y.words(0, false));
        tell(all, x, y -> y.words(0, true));
        tell(all, x, y -> y.pass(1));
        tell(all, x, y -> y.rest(1));
        return all.toString();
    }

    /** How the messages go on, minute by minute. */
    private static String wentOn(Codewordcable x) {
        StringBuilder all = new StringBuilder();
        for (int minute = 0; minute < 12; minute++) {
            tell(all, x, y -> y.pass(1));
            for (int i = 0; i < 4; i++) {
                int message = i;
                tell(all, x, y -> y.ofMessage(message, 4));
            }
            tell(all, x, y -> y.ofMessage(59, 4));
        }
        return all.toString();
    }

    /** Which ways messages take that are sent now, and how all go on. */
    private static String sentOn(Codewordcable x) {
        StringBuilder all = new StringBuilder();
        for (int i = 0; i < 12; i++) {
            int from = i / 3;
            int to = (from + 1 + i % 3) % 4;
            tell(all, x, y -> y.draft(0));
            tell(all, x, y -> y.send(from, to, Codewordcable.ORDINARY, true));
        }
        for (int minute = 0; minute < 5; minute++) {
            for (int i = 0; i < 14; i++) {
                int message = i;
                tell(all, x, y -> y.ofMessage(message, 3));
                tell(all, x, y -> y.ofMessage(message, 4));
            }
            tell(all, x, y -> y.pass(1));
        }
        for (int i = 0; i < 12; i++) {
            int cable = i;
            tell(all, x, y -> y.broken(cable, true));
        }
        return all.toString();
    }

    private static void tell(StringBuilder all, Codewordcable x, Call call) {
        all.append(outcome(x, call)).append(' ');
    }

    /** The number of a code word. */
    static int code(String letters) {
        int number = 0;
        for (int i = 0; i < letters.length(); i++) {
            number = number * 26 + letters.charAt(i) - 'a';
        }
        return number;
    }

    static void ideas(Codewordcable x, int... letters) {
        for (int many : letters) {
            x.idea(many);
        }
    }

    static void offices(Codewordcable x, int many) {
        for (int i = 0; i < many; i++) {
            x.office();
        }
    }

    static void drafts(Codewordcable x, int... ideas) {
        for (int idea : ideas) {
            x.draft(idea);
        }
    }
}
