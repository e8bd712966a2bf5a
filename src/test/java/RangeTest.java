/**
 * Every range that the document names, promise by promise: the last number on each side that is taken, the first
 * that is not, and the ends of int. What is refused changes nothing (Check.refused asks the object all over).
 */
public final class RangeTest {
    private static final int NONE = Codewordcable.NONE;
    private static final Check.Scene MIDDLE = Scenes::middle;
    private static final Check check = new Check();

    public static void main(String[] args) {
        ideas();
        entries();
        candidates();
        cables();
        broken();
        forbids();
        keys();
        conferences();
        reserves();
        drafts();
        words();
        sends();
        wrong();
        minutes();
        days();
        numbersOfMessages();
        wordsOfMessages();
        readsAndClaims();
        accounts();
        check.end();
    }

    private static Codewordcable longest() {
        Codewordcable x = Scenes.withBook(1);
        for (int i = 0; i < 24; i++) {
            x.draft(0);
        }
        x.send(0, 1, Codewordcable.ORDINARY, true);
        return x;
    }

    /** Promise 2: letters, 1 to 20. */
    private static void ideas() {
        check.range("idea: letters", Check.ARGUMENT, 1, 20, MIDDLE, (x, n) -> x.idea(n));
    }

    /** Promise 3: word, 0 to 11881375; first an idea; the others an idea or NONE. */
    private static void entries() {
        int word = Check.code("mnopq");
        check.range("entry: word", Check.ARGUMENT, 0, Scenes.LAST_CODE, RangeTest::nearNone,
                (x, n) -> x.entry(n, 4, NONE, NONE, NONE));
        check.range("entry: first", Check.INDEX, 0, 5, MIDDLE, (x, n) -> x.entry(word, n, 3, 3, 3));
        check.range("entry: second", Check.INDEX, NONE, 5, MIDDLE, (x, n) -> x.entry(word, 3, n, NONE, NONE));
        check.range("entry: third", Check.INDEX, NONE, 5, MIDDLE, (x, n) -> x.entry(word, 3, 3, n, NONE));
        check.range("entry: fourth", Check.INDEX, NONE, 5, MIDDLE, (x, n) -> x.entry(word, 3, 3, 3, n));
    }

    /** A book to which the lowest and the highest code word can be put. */
    private static Codewordcable nearNone() {
        Codewordcable x = new Codewordcable();
        Check.ideas(x, 20, 16, 15, 5, 1, 10);
        x.entry(Check.code("abcde"), 0, NONE, NONE, NONE);
        return x;
    }

    /** Promises 4 and 5: word, 0 to 11881375; place, not below 0. */
    private static void candidates() {
        check.range("candidates: word", Check.ARGUMENT, 0, Scenes.LAST_CODE, MIDDLE, (x, n) -> x.candidates(n));
        check.range("candidate: word", Check.ARGUMENT, 0, Scenes.LAST_CODE, MIDDLE, (x, n) -> x.candidate(n, 0));
        int[] below = {-1, -2, Integer.MIN_VALUE};
        for (int place : below) {
            check.refused("candidate: place " + place, Check.INDEX, MIDDLE, x -> x.candidate(0, place));
        }
        check.due("candidate: place 0", Scenes.middle().candidate(Check.code("abcde"), 0), 0);
        check.due("candidate: the highest place", Scenes.middle().candidate(0, Integer.MAX_VALUE), NONE);
    }

    /** Promise 7: two offices; rate, 1 to 100; words, 1 to 20. */
    private static void cables() {
        check.range("cable: office", Check.INDEX, 0, 3, MIDDLE, (x, n) -> x.cable(n, another(n), 1, 1));
        check.range("cable: other", Check.INDEX, 0, 3, MIDDLE, (x, n) -> x.cable(another(n), n, 1, 1));
        check.range("cable: rate", Check.ARGUMENT, 1, 100, MIDDLE, (x, n) -> x.cable(0, 1, n, 1));
        check.range("cable: words", Check.ARGUMENT, 1, 20, MIDDLE, (x, n) -> x.cable(0, 1, 1, n));
    }

    private static int another(int office) {
        return office == 0 ? 3 : 0;
    }

    /** Promise 8: a cable. */
    private static void broken() {
        check.range("broken: cable, true", Check.INDEX, 0, 3, MIDDLE, (x, n) -> x.broken(n, true));
        check.range("broken: cable, false", Check.INDEX, 0, 3, MIDDLE, (x, n) -> x.broken(n, false));
        check.range("broken: cable of 12", Check.INDEX, 0, 11, Scenes::fullOfCables, (x, n) -> x.broken(n, true));
    }

    /** Promise 9: an office. */
    private static void forbids() {
        check.range("forbid: office, true", Check.INDEX, 0, 3, MIDDLE, (x, n) -> x.forbid(n, true) ? 1 : 0);
        check.range("forbid: office, false", Check.INDEX, 0, 3, MIDDLE, (x, n) -> x.forbid(n, false) ? 1 : 0);
        check.range("forbid: office of 8", Check.INDEX, 0, 7, Scenes::fullOfOffices,
                (x, n) -> x.forbid(n, true) ? 1 : 0);
    }

    /** Promise 10: an office; key, 0 to 39. */
    private static void keys() {
        check.range("key: office", Check.INDEX, 0, 3, MIDDLE, (x, n) -> x.key(n, 5));
        check.range("key: office of 8", Check.INDEX, 0, 7, Scenes::fullOfOffices, (x, n) -> x.key(n, 39));
        check.range("key: key", Check.ARGUMENT, 0, 39, MIDDLE, (x, n) -> x.key(0, n));
    }

    /** Promise 11: day, 0 to 1000; plain, 5 to 20; code, 5, 10 or 15; vowels, 0 to 3. */
    private static void conferences() {
        check.range("conference: day", Check.ARGUMENT, 0, 1000, MIDDLE, (x, n) -> x.conference(n, 6, 5, 0));
        check.range("conference: plain", Check.ARGUMENT, 5, 20, MIDDLE, (x, n) -> x.conference(0, n, 5, 0));
        check.range("conference: code", Check.ARGUMENT, 5, 15, MIDDLE, (x, n) -> x.conference(0, 5, n, 0));
        check.range("conference: vowels", Check.ARGUMENT, 0, 3, MIDDLE, (x, n) -> x.conference(0, 5, 5, n));
        check.taken("conference: code 10", MIDDLE, x -> x.conference(0, 5, 10, 0));
        for (int code = 6; code < 15; code++) {
            int letters = code;
            if (code != 10) {
                check.refused("conference: code " + code, Check.ARGUMENT, MIDDLE,
                        x -> x.conference(0, 5, letters, 0));
            }
        }
    }

    /** Promise 12: an office; a conference, from 1 on. */
    private static void reserves() {
        check.range("reserve: office", Check.INDEX, 0, 3, MIDDLE, (x, n) -> x.reserve(n, 1));
        check.range("reserve: office of 8", Check.INDEX, 0, 7, RangeTest::eightOffices, (x, n) -> x.reserve(n, 1));
        check.range("reserve: conference", Check.INDEX, 1, 3, MIDDLE, (x, n) -> x.reserve(0, n));
        check.range("reserve: conference of 12", Check.INDEX, 1, 12, Scenes::fullOfConferences,
                (x, n) -> x.reserve(0, n));
    }

    private static Codewordcable eightOffices() {
        Codewordcable x = Scenes.fullOfOffices();
        x.conference(0, 5, 5, 0);
        return x;
    }

    /** Promise 13: an idea. */
    private static void drafts() {
        check.range("draft: idea", Check.INDEX, 0, 5, MIDDLE, (x, n) -> x.draft(n));
        check.range("draft: idea of 30", Check.INDEX, 0, 29, Scenes::fullOfIdeas, (x, n) -> x.draft(n));
    }

    /** Promise 14: an office. */
    private static void words() {
        check.range("words: office, packed", Check.INDEX, 0, 3, MIDDLE, (x, n) -> x.words(n, true));
        check.range("words: office, plain", Check.INDEX, 0, 3, MIDDLE, (x, n) -> x.words(n, false));
        check.range("words: office of 8", Check.INDEX, 0, 7, Scenes::fullOfOffices, (x, n) -> x.words(n, true));
    }

    /** Promise 15: two offices; kind, DEFERRED to URGENT. */
    private static void sends() {
        check.range("send: from", Check.INDEX, 0, 3, MIDDLE, (x, n) -> x.send(n, another(n), 1, true));
        check.range("send: to", Check.INDEX, 0, 3, MIDDLE, (x, n) -> x.send(another(n), n, 1, true));
        check.range("send: kind", Check.ARGUMENT, Codewordcable.DEFERRED, Codewordcable.URGENT, MIDDLE,
                (x, n) -> x.send(0, 1, n, true));
    }

    /** Promise 16: a message; the place of a word in it; letter, 0 to 4; to, 0 to 25. */
    private static void wrong() {
        check.range("wrong: message", Check.INDEX, 0, 0, RangeTest::longest, (x, n) -> x.wrong(n, 0, 0, 1));
        check.range("wrong: message of 60", Check.INDEX, 0, 59, RangeTest::sixtyOfCode,
                (x, n) -> x.wrong(n, 0, 0, 1));
        check.range("wrong: place", Check.INDEX, 0, 23, RangeTest::longest, (x, n) -> x.wrong(0, n, 0, 1));
        check.range("wrong: letter", Check.ARGUMENT, 0, 4, MIDDLE, (x, n) -> x.wrong(0, 1, n, 9));
        check.range("wrong: to", Check.ARGUMENT, 0, 25, MIDDLE, (x, n) -> x.wrong(0, 1, 0, n));
    }

    private static Codewordcable sixtyOfCode() {
        Codewordcable x = Scenes.withBook(1);
        for (int i = 0; i < 60; i++) {
            x.draft(0);
            x.send(0, 1, Codewordcable.DEFERRED, true);
        }
        return x;
    }

    /** Promise 17: minutes, 1 to 60. */
    private static void minutes() {
        check.range("pass: minutes", Check.ARGUMENT, 1, 60, MIDDLE, (x, n) -> x.pass(n));
        check.due("1 minute", new Codewordcable().pass(1), 1);
        check.due("60 minutes", new Codewordcable().pass(60), 60);
    }

    /** Promise 18: days, 1 to 100. */
    private static void days() {
        check.range("rest: days", Check.ARGUMENT, 1, 100, MIDDLE, (x, n) -> x.rest(n));
        check.due("1 day", new Codewordcable().rest(1), 1440);
        check.due("100 days", new Codewordcable().rest(100), 144000);
    }

    /** Promise 19: a message; what, 0 to 5. */
    private static void numbersOfMessages() {
        check.range("ofMessage: message", Check.INDEX, 0, 3, MIDDLE, (x, n) -> x.ofMessage(n, 0));
        check.range("ofMessage: message of 60", Check.INDEX, 0, 59, Scenes::fullOfMessages,
                (x, n) -> x.ofMessage(n, 5));
        check.range("ofMessage: what", Check.ARGUMENT, 0, 5, MIDDLE, (x, n) -> x.ofMessage(0, n));
    }

    /** Promise 20: a message; a word in it. */
    private static void wordsOfMessages() {
        check.range("word: message", Check.INDEX, 0, 3, MIDDLE, (x, n) -> x.word(n, 0, true));
        check.range("word: message of 60", Check.INDEX, 0, 59, Scenes::fullOfMessages, (x, n) -> x.word(n, 0, false));
        check.range("word: place, as sent", Check.INDEX, 0, 23, RangeTest::longest, (x, n) -> x.word(0, n, true));
        check.range("word: place, as it is", Check.INDEX, 0, 23, RangeTest::longest, (x, n) -> x.word(0, n, false));
        check.range("word: place in a message of one", Check.INDEX, 0, 0, MIDDLE, (x, n) -> x.word(1, n, true));
    }

    /** Promises 21 and 22: a message; place, not below 0. */
    private static void readsAndClaims() {
        check.range("read: message", Check.INDEX, 0, 3, MIDDLE, (x, n) -> x.read(n, 0));
        check.range("read: message of 60", Check.INDEX, 0, 59, Scenes::fullOfMessages, (x, n) -> x.read(n, 0));
        int[] below = {-1, -2, Integer.MIN_VALUE};
        for (int place : below) {
            check.refused("read: place " + place, Check.INDEX, MIDDLE, x -> x.read(0, place));
        }
        check.due("read: place 0", longest().read(0, 0), 0);
        check.due("read: the last place", longest().read(0, 23), 0);
        check.due("read: the first behind it", longest().read(0, 24), NONE);
        check.due("read: the highest place", longest().read(0, Integer.MAX_VALUE), NONE);
        check.range("claim: message", Check.INDEX, 0, 3, MIDDLE, (x, n) -> x.claim(n));
        check.range("claim: message of 60", Check.INDEX, 0, 59, Scenes::fullOfMessages, (x, n) -> x.claim(n));
    }

    /** Promises 23 and 24: an office. */
    private static void accounts() {
        check.range("account: office", Check.INDEX, 0, 3, MIDDLE, (x, n) -> x.account(n));
        check.range("account: office of 8", Check.INDEX, 0, 7, Scenes::fullOfOffices, (x, n) -> x.account(n));
        check.range("accountAnew: office", Check.INDEX, 0, 3, MIDDLE, (x, n) -> x.accountAnew(n));
        check.range("accountAnew: office of 8", Check.INDEX, 0, 7, Scenes::fullOfOffices,
                (x, n) -> x.accountAnew(n));
    }
}
