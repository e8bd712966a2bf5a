/**
 * What calls leave as it was: "A call of a method that throws an exception changes nothing", a call that asks does
 * not either, and what is told of one thing changes no other one. Check asks the objects all over.
 */
public final class KeepTest {
    private static final int NONE = Codewordcable.NONE;
    private static final Check.Scene MIDDLE = Scenes::middle;
    private static final Check.Scene CROWDED = Scenes::crowded;
    private static final Check.Scene LATE = Scenes::late;
    private static final Check check = new Check();

    public static void main(String[] args) {
        scenes();
        refusedIndexes();
        refusedArguments();
        refusedStates();
        refusedMinutes();
        asked();
        setBack();
        toldLater();
        oneByOne();
        check.end();
    }

    /** The scenes are what their comments say. */
    private static void scenes() {
        Codewordcable x = Scenes.crowded();
        check.due("60 messages", x.ofMessage(59, 0), Codewordcable.UNDERWAY);
        check.due("the first is where it was", x.ofMessage(0, 4), Scenes.middle().ofMessage(0, 4));
        check.due("the last entry", x.candidate(Scenes.codeOf(34), 0), 39);
        check.due("the minute", Scenes.late().pass(20), 1000000);
        check.due("nothing was carried", Scenes.late().ofMessage(0, 4), Scenes.middle().ofMessage(0, 4));
    }

    private static void index(String what, Check.Call call) {
        check.refused(what + ", in the middle", Check.INDEX, MIDDLE, call);
        check.refused(what + ", crowded", Check.INDEX, CROWDED, call);
    }

    private static void argument(String what, Check.Call call) {
        check.refused(what + ", in the middle", Check.ARGUMENT, MIDDLE, call);
        check.refused(what + ", crowded", Check.ARGUMENT, CROWDED, call);
    }

    private static void refusedIndexes() {
        index("entry", x -> x.entry(5, 0, 30, NONE, NONE));
        index("candidate", x -> x.candidate(5, -1));
        index("cable", x -> x.cable(0, 8, 1, 1));
        index("broken", x -> x.broken(12, true));
        index("forbid", x -> x.forbid(8, true) ? 1 : 0);
        index("key", x -> x.key(8, 1));
        index("reserve, no office", x -> x.reserve(8, 1));
        index("reserve, no conference", x -> x.reserve(0, 13));
        index("draft", x -> x.draft(30));
        index("words", x -> x.words(8, true));
        index("send, from", x -> x.send(8, 0, 1, true));
        index("send, to", x -> x.send(0, 8, 1, true));
        index("wrong, message", x -> x.wrong(60, 0, 0, 0));
        index("wrong, place", x -> x.wrong(0, 24, 0, 0));
        index("ofMessage", x -> x.ofMessage(60, 0));
        index("word, message", x -> x.word(60, 0, true));
        index("word, place", x -> x.word(0, 24, true));
        index("read, message", x -> x.read(60, 0));
        index("read, place", x -> x.read(0, -1));
        index("claim", x -> x.claim(60));
        index("account", x -> x.account(8));
        index("accountAnew", x -> x.accountAnew(8));
    }

    private static void refusedArguments() {
        argument("idea", x -> x.idea(21));
        argument("entry, word", x -> x.entry(-1, 0, 1, 2, NONE));
        argument("entry, behind NONE", x -> x.entry(5, 0, NONE, 2, NONE));
        argument("candidates", x -> x.candidates(-1));
        argument("candidate", x -> x.candidate(-1, 0));
        argument("cable, both one", x -> x.cable(0, 0, 1, 1));
        argument("cable, rate", x -> x.cable(0, 1, 101, 1));
        argument("cable, words", x -> x.cable(0, 1, 1, 21));
        argument("key", x -> x.key(0, 40));
        argument("conference, day", x -> x.conference(1001, 5, 5, 0));
        argument("conference, vowels", x -> x.conference(0, 5, 5, 4));
        argument("send, both one", x -> x.send(0, 0, 1, true));
        argument("send, kind", x -> x.send(0, 1, 3, true));
        argument("wrong, letter", x -> x.wrong(0, 1, 5, 0));
        argument("wrong, to", x -> x.wrong(0, 1, 0, 26));
        argument("pass", x -> x.pass(61));
        argument("rest", x -> x.rest(101));
        argument("ofMessage", x -> x.ofMessage(0, 6));
    }

    private static void refusedStates() {
        int free = Check.code("qrstu");
        check.refused("a 31st idea", Check.STATE, CROWDED, x -> x.idea(1));
        check.refused("a 41st entry", Check.STATE, CROWDED, x -> x.entry(free, 1, 2, NONE, NONE));
        check.refused("a phrase that is there", Check.STATE, MIDDLE, x -> x.entry(free, 0, 1, NONE, NONE));
        check.refused("a code word too near", Check.STATE, MIDDLE,
                x -> x.entry(Check.code(Scenes.BOOK[1]) + 1, 5, 5, NONE, NONE));
        check.refused("a ninth office", Check.STATE, CROWDED, x -> x.office());
        check.refused("a 13th cable", Check.STATE, CROWDED, x -> x.cable(0, 1, 1, 1));
        check.refused("a 13th conference", Check.STATE, CROWDED, x -> x.conference(0, 5, 5, 0));
        check.refused("a 25th idea in the draft", Check.STATE, CROWDED, x -> x.draft(0));
        check.refused("a 61st message", Check.STATE, CROWDED, x -> x.send(0, 1, 1, true));
        check.refused("an empty draft", Check.STATE, KeepTest::withoutDraft, x -> x.send(0, 1, 1, true));
        check.refused("no route", Check.STATE, KeepTest::withoutRoute, x -> x.send(0, 1, 1, true));
        check.refused("a plain word", Check.STATE, MIDDLE, x -> x.wrong(0, 0, 0, 0));
        check.refused("a word of one DELIVERED", Check.STATE, MIDDLE, x -> x.wrong(1, 0, 0, 0));
        check.refused("a word of one STOPPED", Check.STATE, MIDDLE, x -> x.wrong(2, 0, 0, 0));
    }

    private static Codewordcable withoutDraft() {
        Codewordcable x = Scenes.middle();
        x.send(2, 1, Codewordcable.URGENT, false);
        return x;
    }

    private static Codewordcable withoutRoute() {
        Codewordcable x = Scenes.middle();
        x.broken(0, true);
        return x;
    }

    private static void refusedMinutes() {
        check.refused("a minute too late", Check.STATE, LATE, x -> x.pass(21));
        check.refused("40 minutes too late", Check.STATE, LATE, x -> x.pass(60));
        check.refused("a day too late", Check.STATE, LATE, x -> x.rest(1));
        check.refused("100 days too late", Check.STATE, LATE, x -> x.rest(100));
    }

    private static void still(String what, Check.Call call) {
        check.alike(what + ", in the middle", () -> after(Scenes.middle(), call), MIDDLE);
        check.alike(what + ", crowded", () -> after(Scenes.crowded(), call), CROWDED);
    }

    private static Codewordcable after(Codewordcable x, Check.Call call) {
        call.on(x);
        return x;
    }

    /** Who asks changes nothing. */
    private static void asked() {
        int word = Check.code(Scenes.BOOK[0]);
        still("candidates", x -> x.candidates(word) + x.candidates(word + 1) + x.candidates(0));
        still("candidate", x -> x.candidate(word, 0) + x.candidate(word + 1, 0) + x.candidate(word, 9));
        still("words, plain", x -> x.words(0, false) + x.words(3, false));
        still("words, packed", x -> x.words(0, true) + x.words(3, true));
        for (int i = 0; i < 4; i++) {
            int message = i;
            for (int j = 0; j < 6; j++) {
                int what = j;
                still("ofMessage " + i + " " + j, x -> x.ofMessage(message, what));
            }
            still("word " + i, x -> x.word(message, 0, true) + x.word(message, 0, false));
            still("read " + i, x -> x.read(message, 0) + x.read(message, 1) + x.read(message, 99));
            still("claim " + i, x -> x.claim(message));
            still("account " + i, x -> x.account(message));
            still("accountAnew " + i, x -> x.accountAnew(message));
        }
    }

    /** What is set and set back again is as if it had not been set. */
    private static void setBack() {
        for (int office = 0; office < 4; office++) {
            int one = office;
            still("key " + office, x -> x.key(one, x.key(one, 11)));
            still("forbid " + office, x -> x.forbid(one, x.forbid(one, true)) ? 1 : 0);
            still("allow " + office, x -> x.forbid(one, x.forbid(one, false)) ? 1 : 0);
        }
        for (int cable = 0; cable < 4; cable++) {
            int one = cable;
            still("broken " + cable, x -> x.broken(one, one != 3) + x.broken(one, one == 3));
            still("the same again " + cable, x -> x.broken(one, one == 3));
        }
        for (int letter = 0; letter < 5; letter++) {
            int one = letter;
            still("wrong " + letter, x -> x.wrong(0, 2, one, 20) + x.wrong(0, 2, one, sentLetter(x, one)));
        }
        still("reserve again", x -> x.reserve(1, 1) + x.reserve(2, 2));
    }

    private static int sentLetter(Codewordcable x, int letter) {
        int word = x.word(0, 2, true);
        for (int i = letter; i < 4; i++) {
            word /= 26;
        }
        return word % 26;
    }

    private static void later(String what, int when, Check.Call call) {
        check.alike(what + ", told later", () -> after(Scenes.middle(), call), () -> Scenes.middleWith(when, call));
    }

    /** What is told at once or at last, if nothing between asks for it, is the same. */
    private static void toldLater() {
        later("an idea", 1, x -> x.idea(7));
        later("an office", 2, x -> x.office());
        later("a dear cable", 3, x -> x.cable(0, 1, 100, 20));
        later("a conference of a day far off", 4, x -> x.conference(1000, 5, 15, 3));
        later("a reserve of rules that have not come", 4, x -> x.reserve(0, 3));
        later("a key of an office that neither sent nor reads", 3, x -> x.key(1, 7));
        later("a forbidden office to which none comes with code", 5, x -> x.forbid(1, false) ? 1 : 0);
        later("an entry", 5, x -> x.entry(Check.code("qrstu"), 5, 5, NONE, NONE));
    }

    /** Two minutes are one and one; so are two days. */
    private static void oneByOne() {
        check.alike("two minutes", () -> after(Scenes.middle(), x -> x.pass(1) + x.pass(1)),
                () -> after(Scenes.middle(), x -> x.pass(2)));
        check.alike("60 minutes", () -> after(Scenes.crowded(), x -> x.pass(17) + x.pass(43)),
                () -> after(Scenes.crowded(), x -> x.pass(60)));
        check.alike("two days", () -> after(Scenes.middle(), x -> x.rest(1) + x.rest(1)),
                () -> after(Scenes.middle(), x -> x.rest(2)));
        check.alike("a day and a minute", () -> after(Scenes.middle(), x -> x.rest(1) + x.pass(1)),
                () -> after(Scenes.middle(), x -> x.pass(1) + x.rest(1)));
    }
}
