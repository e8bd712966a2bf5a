/**
 * "If several exceptions apply, the one that its @throws lines name first is thrown": each call that can throw
 * more than one, with each two of them at once and with all; and that a refused call changes nothing.
 */
public final class OrderTest {
    private static final int NONE = Codewordcable.NONE;
    private static final Check.Scene MIDDLE = Scenes::middle;
    private static final Check check = new Check();

    public static void main(String[] args) {
        ideas();
        entries();
        candidates();
        cables();
        keys();
        conferences();
        drafts();
        sends();
        wrong();
        minutes();
        numbersOfMessages();
        twiceRefused();
        check.end();
    }

    private static void index(String what, Check.Scene scene, Check.Call call) {
        check.refused(what, Check.INDEX, scene, call);
    }

    private static void argument(String what, Check.Scene scene, Check.Call call) {
        check.refused(what, Check.ARGUMENT, scene, call);
    }

    private static void state(String what, Check.Scene scene, Check.Call call) {
        check.refused(what, Check.STATE, scene, call);
    }

    private static void ideas() {
        Check.Scene full = Scenes::fullOfIdeas;
        state("idea: 30", full, x -> x.idea(20));
        argument("idea: letters 0, 30", full, x -> x.idea(0));
        argument("idea: letters 21, 30", full, x -> x.idea(21));
    }

    private static void entries() {
        Check.Scene full = Scenes::fullOfEntries;
        int free = Check.code("qrstu");
        int same = Check.code("abcde");
        state("entry: the phrase", MIDDLE, x -> x.entry(free, 0, 1, NONE, NONE));
        state("entry: the code", MIDDLE, x -> x.entry(same, 5, NONE, NONE, NONE));
        state("entry: the phrase and the code", MIDDLE, x -> x.entry(same, 0, NONE, NONE, NONE));
        state("entry: 40", full, x -> x.entry(free, 1, 1, NONE, NONE));
        state("entry: 40, and the phrase and the code", full, x -> x.entry(0, 0, NONE, NONE, NONE));
        argument("entry: word, the phrase", MIDDLE, x -> x.entry(-1, 0, NONE, NONE, NONE));
        argument("entry: behind NONE, the code", MIDDLE, x -> x.entry(same, 0, NONE, 1, NONE));
        argument("entry: word and behind NONE", MIDDLE, x -> x.entry(11881376, 0, NONE, NONE, 1));
        argument("entry: word, 40", full, x -> x.entry(11881376, 1, 1, NONE, NONE));
        argument("entry: behind NONE, 40", full, x -> x.entry(free, 1, NONE, NONE, 1));
        index("entry: first, word", MIDDLE, x -> x.entry(-1, 6, NONE, NONE, NONE));
        index("entry: first NONE, behind NONE", MIDDLE, x -> x.entry(free, NONE, 1, NONE, NONE));
        index("entry: all NONE, word", MIDDLE, x -> x.entry(-1, NONE, NONE, NONE, NONE));
        index("entry: second, the code", MIDDLE, x -> x.entry(same, 0, 6, NONE, NONE));
        index("entry: third, behind NONE", MIDDLE, x -> x.entry(free, 0, NONE, 6, NONE));
        index("entry: fourth, behind NONE", MIDDLE, x -> x.entry(free, 0, NONE, NONE, 6));
        index("entry: fourth, word, behind NONE, the code", MIDDLE, x -> x.entry(-5, 0, NONE, 0, -2));
        index("entry: first, 40", full, x -> x.entry(free, 30, NONE, NONE, NONE));
        index("entry: all at once", full, x -> x.entry(-1, 0, NONE, NONE, 30));
    }

    private static void candidates() {
        index("candidate: place, word", MIDDLE, x -> x.candidate(-1, -1));
        index("candidate: place, word above", MIDDLE, x -> x.candidate(11881376, Integer.MIN_VALUE));
        argument("candidate: word, a place behind the last", MIDDLE, x -> x.candidate(-1, 40));
    }

    private static void cables() {
        Check.Scene full = Scenes::fullOfCables;
        state("cable: 12", full, x -> x.cable(0, 1, 1, 1));
        argument("cable: both are one, 12", full, x -> x.cable(2, 2, 1, 1));
        argument("cable: rate, 12", full, x -> x.cable(0, 1, 101, 1));
        argument("cable: words, 12", full, x -> x.cable(0, 1, 1, 0));
        argument("cable: both are one, rate and words", MIDDLE, x -> x.cable(0, 0, 0, 21));
        index("cable: office, both are one", MIDDLE, x -> x.cable(4, 4, 1, 1));
        index("cable: office -1, both are one", MIDDLE, x -> x.cable(-1, -1, 1, 1));
        index("cable: other, rate", MIDDLE, x -> x.cable(0, 4, 0, 1));
        index("cable: office, words", MIDDLE, x -> x.cable(4, 0, 1, 21));
        index("cable: other, 12", full, x -> x.cable(0, 3, 1, 1));
        index("cable: all at once", full, x -> x.cable(3, 3, 0, 0));
    }

    private static void keys() {
        index("key: office, key", MIDDLE, x -> x.key(4, 40));
        index("key: office -1, key -1", MIDDLE, x -> x.key(-1, -1));
    }

    private static void conferences() {
        Check.Scene full = Scenes::fullOfConferences;
        state("conference: 12", full, x -> x.conference(1000, 20, 15, 3));
        argument("conference: day, 12", full, x -> x.conference(1001, 5, 5, 0));
        argument("conference: plain, 12", full, x -> x.conference(0, 21, 5, 0));
        argument("conference: code, 12", full, x -> x.conference(0, 5, 7, 0));
        argument("conference: vowels, 12", full, x -> x.conference(0, 5, 5, 4));
        argument("conference: all out of range", MIDDLE, x -> x.conference(-1, 4, 0, -1));
    }

    private static void drafts() {
        state("draft: 24", Scenes::fullDraft, x -> x.draft(0));
        index("draft: idea, 24", Scenes::fullDraft, x -> x.draft(30));
        index("draft: idea NONE, 24", Scenes::fullDraft, x -> x.draft(NONE));
    }

    /** Three offices, the last one without a cable; with a draft or without. */
    private static Codewordcable three(boolean drafted) {
        Codewordcable x = Scenes.withBook(1);
        x.office();
        if (drafted) {
            x.draft(0);
        }
        return x;
    }

    private static Codewordcable sixtyBroken() {
        Codewordcable x = Scenes.fullOfMessages();
        x.broken(0, true);
        return x;
    }

    private static void sends() {
        Check.Scene drafted = () -> three(true);
        Check.Scene empty = () -> three(false);
        Check.Scene sixty = Scenes::fullOfMessages;
        state("send: an empty draft", empty, x -> x.send(0, 1, 1, true));
        state("send: no route", drafted, x -> x.send(0, 2, 1, true));
        state("send: an empty draft, no route", empty, x -> x.send(2, 0, 1, true));
        state("send: 60", sixty, x -> x.send(0, 1, 1, true));
        state("send: 60, no route", OrderTest::sixtyBroken, x -> x.send(0, 1, 1, true));
        argument("send: both are one, an empty draft", empty, x -> x.send(0, 0, 1, true));
        argument("send: both are one, kind", drafted, x -> x.send(0, 0, 3, true));
        argument("send: kind, an empty draft", empty, x -> x.send(0, 1, 3, false));
        argument("send: kind, no route", drafted, x -> x.send(0, 2, -1, false));
        argument("send: kind, 60", sixty, x -> x.send(0, 1, 3, true));
        argument("send: both are one, 60", sixty, x -> x.send(1, 1, 1, true));
        index("send: from, both are one", drafted, x -> x.send(3, 3, 1, true));
        index("send: from, kind", drafted, x -> x.send(3, 0, 3, true));
        index("send: to, kind", drafted, x -> x.send(0, -1, -1, true));
        index("send: to, an empty draft", empty, x -> x.send(0, 3, 1, true));
        index("send: from, 60", sixty, x -> x.send(2, 0, 1, true));
        index("send: all at once", OrderTest::sixtyBroken, x -> x.send(2, 2, 3, true));
    }

    /** Message 0 of middle() is UNDERWAY: a plain word, three code words; 1 is DELIVERED, 2 STOPPED. */
    private static void wrong() {
        state("wrong: a plain word", MIDDLE, x -> x.wrong(0, 0, 0, 0));
        state("wrong: DELIVERED, a plain word", MIDDLE, x -> x.wrong(1, 0, 0, 0));
        state("wrong: STOPPED", MIDDLE, x -> x.wrong(2, 0, 0, 9));
        argument("wrong: letter, a plain word", MIDDLE, x -> x.wrong(0, 0, 5, 0));
        argument("wrong: to, a plain word", MIDDLE, x -> x.wrong(0, 0, 0, 26));
        argument("wrong: letter, DELIVERED", MIDDLE, x -> x.wrong(1, 0, -1, 0));
        argument("wrong: to, STOPPED", MIDDLE, x -> x.wrong(2, 0, 0, -1));
        argument("wrong: letter and to", MIDDLE, x -> x.wrong(0, 1, 5, 26));
        index("wrong: message, letter", MIDDLE, x -> x.wrong(4, 0, 5, 0));
        index("wrong: message, place", MIDDLE, x -> x.wrong(4, 9, 0, 0));
        index("wrong: place, to", MIDDLE, x -> x.wrong(0, 4, 0, 26));
        index("wrong: place, DELIVERED", MIDDLE, x -> x.wrong(1, 1, 0, 0));
        index("wrong: place, STOPPED, letter", MIDDLE, x -> x.wrong(2, -1, -1, 0));
    }

    private static void minutes() {
        Check.Scene last = () -> Scenes.atMinute(1000000);
        state("pass: above the last minute", last, x -> x.pass(60));
        state("rest: above the last minute", last, x -> x.rest(100));
        argument("pass: 0, at the last minute", last, x -> x.pass(0));
        argument("pass: 61, above the last minute", last, x -> x.pass(61));
        argument("pass: far above the last minute", last, x -> x.pass(Integer.MAX_VALUE));
        argument("rest: 0, at the last minute", last, x -> x.rest(0));
        argument("rest: 101, above the last minute", last, x -> x.rest(101));
        argument("rest: so many that their minutes wrap", last, x -> x.rest(2982617));
        argument("rest: far above the last minute", last, x -> x.rest(Integer.MAX_VALUE));
    }

    private static void numbersOfMessages() {
        index("ofMessage: message, what", MIDDLE, x -> x.ofMessage(4, 6));
        index("ofMessage: message -1, what -1", MIDDLE, x -> x.ofMessage(-1, -1));
        index("word: message, place", MIDDLE, x -> x.word(4, -1, true));
        index("read: message, place", MIDDLE, x -> x.read(-1, -1));
        index("reserve: office, conference", MIDDLE, x -> x.reserve(4, 0));
    }

    /** Many refused calls one after the other leave the object as it was. */
    private static void twiceRefused() {
        Check.Scene worn = () -> {
            Codewordcable x = Scenes.middle();
            for (int i = 0; i < 20; i++) {
                Check.outcome(x, y -> y.idea(0));
                Check.outcome(x, y -> y.entry(0, 0, NONE, NONE, NONE));
                Check.outcome(x, y -> y.cable(0, 0, 1, 1));
                Check.outcome(x, y -> y.conference(0, 5, 6, 0));
                Check.outcome(x, y -> y.draft(6));
                Check.outcome(x, y -> y.send(0, 0, 1, true));
                Check.outcome(x, y -> y.wrong(0, 0, 0, 0));
                Check.outcome(x, y -> y.pass(61));
            }
            return x;
        };
        check.alike("160 refused calls", worn, MIDDLE);
    }
}
