/** Promises 16, 20, 21 and 22: letters that go wrong, words, what is read, and claims. */
public final class WrongTest {
    private static final int NONE = Codewordcable.NONE;
    private static final int UNCLEAR = Codewordcable.UNCLEAR;
    private static final Check check = new Check();

    public static void main(String[] args) {
        letters();
        claims();
        wrongRefused();
        words();
        reading();
        readingUnclear();
        readingByKey();
        readingByBook();
        readingOnTheWay();
        readRefused();
        check.end();
    }

    /** A message of a plain word, a code word of two ideas, a plain word, a code word of one idea. */
    private static Codewordcable sent() {
        Codewordcable x = new Codewordcable();
        Check.offices(x, 2);
        x.cable(0, 1, 1, 20);
        Check.ideas(x, 5, 20, 20, 20);
        x.entry(Check.code("abcde"), 1, 2, NONE, NONE);
        x.entry(Check.code("vwxyz"), 3, NONE, NONE, NONE);
        Check.drafts(x, 0, 1, 2, 0, 3);
        x.send(0, 1, Codewordcable.ORDINARY, true);
        return x;
    }

    /** A message of the code word of the number 0. */
    private static Codewordcable sentZero() {
        Codewordcable x = new Codewordcable();
        Check.offices(x, 2);
        x.cable(0, 1, 1, 20);
        Check.ideas(x, 20);
        x.entry(0, 0, NONE, NONE, NONE);
        x.draft(0);
        x.send(0, 1, Codewordcable.ORDINARY, true);
        return x;
    }

    private static Codewordcable delivered() {
        Codewordcable x = sent();
        x.pass(1);
        return x;
    }

    private static Codewordcable stopped() {
        Codewordcable x = sent();
        x.forbid(1, true);
        x.pass(1);
        return x;
    }

    private static void letters() {
        String[] want = {"zbcde", "zzcde", "zzzde", "zzzze", "zzzzz"};
        Codewordcable x = sent();
        for (int letter = 0; letter < 5; letter++) {
            check.due("letter " + letter, x.wrong(0, 1, letter, 25), Check.code(want[letter]));
            check.due("the word now", x.word(0, 1, false), Check.code(want[letter]));
            check.due("the word sent", x.word(0, 1, true), Check.code("abcde"));
        }
        check.due("back to a", x.wrong(0, 1, 0, 0), Check.code("azzzz"));
        check.due("the same letter again", x.wrong(0, 1, 0, 0), Check.code("azzzz"));
        check.due("the other word", x.wrong(0, 3, 4, 0), Check.code("vwxya"));
        x.pass(1);
        check.due("the word that came", x.word(0, 3, false), Check.code("vwxya"));
    }

    private static void claims() {
        Codewordcable x = sent();
        check.due("nothing wrong", x.claim(0), NONE);
        x.wrong(0, 1, 0, 0);
        check.due("a letter that becomes itself", x.claim(0), NONE);
        x.wrong(0, 3, 4, 0);
        check.due("the last letter", x.claim(0), 19);
        x.wrong(0, 3, 2, 0);
        check.due("the first of two letters", x.claim(0), 17);
        x.wrong(0, 1, 3, 0);
        check.due("the first of two words", x.claim(0), 8);
        x.wrong(0, 1, 0, 7);
        check.due("its first letter", x.claim(0), 5);
        x.wrong(0, 1, 0, 0);
        x.wrong(0, 1, 3, 3);
        check.due("right again", x.claim(0), 17);
        x.pass(1);
        check.due("after it came", x.claim(0), 17);
        Codewordcable zero = sentZero();
        zero.wrong(0, 0, 3, 1);
        check.due("in the first word", zero.claim(0), 3);
        check.refused("claim(1)", Check.INDEX, WrongTest::sent, y -> y.claim(1));
        check.refused("claim(-1)", Check.INDEX, WrongTest::sent, y -> y.claim(-1));
    }

    private static void wrongRefused() {
        Check.Scene scene = WrongTest::sent;
        check.refused("message 1", Check.INDEX, scene, y -> y.wrong(1, 1, 0, 25));
        check.refused("message -1", Check.INDEX, scene, y -> y.wrong(-1, 1, 0, 25));
        check.refused("word 4", Check.INDEX, scene, y -> y.wrong(0, 4, 0, 25));
        check.refused("word -1", Check.INDEX, scene, y -> y.wrong(0, -1, 0, 25));
        check.refused("word 4, letter 5", Check.INDEX, scene, y -> y.wrong(0, 4, 5, 26));
        check.refused("letter -1", Check.ARGUMENT, scene, y -> y.wrong(0, 1, -1, 25));
        check.refused("letter 5", Check.ARGUMENT, scene, y -> y.wrong(0, 1, 5, 25));
        check.refused("to -1", Check.ARGUMENT, scene, y -> y.wrong(0, 1, 0, -1));
        check.refused("to 26", Check.ARGUMENT, scene, y -> y.wrong(0, 1, 0, 26));
        check.refused("a plain word, letter 5", Check.ARGUMENT, scene, y -> y.wrong(0, 0, 5, 0));
        check.refused("a plain word", Check.STATE, scene, y -> y.wrong(0, 0, 0, 25));
        check.refused("another plain word", Check.STATE, scene, y -> y.wrong(0, 2, 0, 25));
        check.refused("DELIVERED", Check.STATE, WrongTest::delivered, y -> y.wrong(0, 1, 0, 25));
        check.refused("DELIVERED, to 26", Check.ARGUMENT, WrongTest::delivered, y -> y.wrong(0, 1, 0, 26));
        check.refused("STOPPED", Check.STATE, WrongTest::stopped, y -> y.wrong(0, 1, 0, 25));
        check.refused("STOPPED, word 4", Check.INDEX, WrongTest::stopped, y -> y.wrong(0, 4, 0, 25));
    }

    private static void words() {
        int[] want = {-2, Check.code("abcde"), -2, Check.code("vwxyz")};
        Codewordcable x = sent();
        for (int i = 0; i < 4; i++) {
            check.due("sent " + i, x.word(0, i, true), want[i]);
            check.due("now " + i, x.word(0, i, false), want[i]);
        }
        x.draft(3);
        x.send(1, 0, Codewordcable.ORDINARY, false);
        check.due("the code word 0", sentZero().word(0, 0, true), 0);
        check.due("the code word 0 goes wrong", sentZero().wrong(0, 0, 0, 1), 26 * 26 * 26 * 26);
        check.due("the code word 0 is read", sentZero().read(0, 0), 0);
        check.due("a plain word of idea 3", x.word(1, 0, false), -5);
        check.refused("message 1", Check.INDEX, WrongTest::sent, y -> y.word(1, 0, true));
        check.refused("message -1", Check.INDEX, WrongTest::sent, y -> y.word(-1, 0, true));
        check.refused("word 4", Check.INDEX, WrongTest::sent, y -> y.word(0, 4, true));
        check.refused("word -1", Check.INDEX, WrongTest::sent, y -> y.word(0, -1, false));
    }

    private static void reads(String what, Codewordcable x, int message, int... want) {
        for (int i = 0; i < want.length; i++) {
            check.due(what + ", idea " + i, x.read(message, i), want[i]);
        }
        check.due(what + ", behind the last", x.read(message, want.length), NONE);
        check.due(what + ", far behind it", x.read(message, Integer.MAX_VALUE), NONE);
    }

    private static void reading() {
        reads("UNDERWAY", sent(), 0, 0, 1, 2, 0, 3);
        reads("DELIVERED", delivered(), 0, 0, 1, 2, 0, 3);
        reads("STOPPED", stopped(), 0, 0, 1, 2, 0, 3);
        Codewordcable x = sent();
        x.wrong(0, 1, 2, 25);
        reads("one letter wrong", x, 0, 0, 1, 2, 0, 3);
        x.wrong(0, 3, 0, 22);
        x.wrong(0, 3, 1, 21);
        reads("two letters turned", x, 0, 0, 1, 2, 0, 3);
    }

    private static void readingUnclear() {
        Codewordcable x = sent();
        x.wrong(0, 1, 0, 25);
        x.wrong(0, 1, 2, 25);
        reads("two letters wrong", x, 0, 0, UNCLEAR, 0, 3);
        x.wrong(0, 1, 0, 0);
        reads("one of them right again", x, 0, 0, 1, 2, 0, 3);
        x.entry(Check.code("abzzz"), 0, NONE, NONE, NONE);
        reads("it is near one word alone", x, 0, 0, 1, 2, 0, 3);
        x.entry(Check.code("abzdq"), 0, 0, NONE, NONE);
        reads("it is near two words", x, 0, 0, UNCLEAR, 0, 3);
        x.wrong(0, 1, 4, 'q' - 'a');
        reads("it is another word", x, 0, 0, 0, 0, 0, 3);
    }

    private static void readingByKey() {
        Codewordcable x = sent();
        x.key(0, 1);
        reads("the key of the first office is not asked", x, 0, 0, 1, 2, 0, 3);
        x.key(1, 1);
        reads("key 1 of two", x, 0, 0, 3, 0, 1, 2);
        x.key(1, 38);
        reads("key 38 of two", x, 0, 0, 1, 2, 0, 3);
        x.key(1, 39);
        reads("key 39 of two", x, 0, 0, 3, 0, 1, 2);
        Check.drafts(x, 0, 1, 2, 0, 3);
        x.key(0, 39);
        x.send(0, 1, Codewordcable.ORDINARY, true);
        check.due("sent as another's word", x.word(1, 1, true), Check.code("vwxyz"));
        reads("sent and read with one key", x, 1, 0, 1, 2, 0, 3);
        x.key(1, 0);
        reads("read with another key", x, 1, 0, 3, 0, 1, 2);
    }

    /** The book that counts is that of now, not that of the day on which the message was sent. */
    private static void readingByBook() {
        Codewordcable x = sent();
        x.key(1, 1);
        x.pass(1);
        x.entry(Check.code("mmmmm"), 3, 3, 3, 3);
        reads("key 1 of three", x, 0, 0, 3, 3, 3, 3, 0, 1, 2);
        x.key(1, 5);
        reads("key 5 of three", x, 0, 0, 3, 0, 3, 3, 3, 3);
    }

    /** "as its last office reads it": the one to which it goes, wherever it is now, also if it was STOPPED before. */
    private static void readingOnTheWay() {
        Codewordcable x = new Codewordcable();
        Check.offices(x, 4);
        Check.ideas(x, 20, 20, 20, 20, 20);
        String[] book = {"aaaaa", "bbbbb", "ccccc", "ddddd", "eeeee"};
        for (int i = 0; i < book.length; i++) {
            x.entry(Check.code(book[i]), i, NONE, NONE, NONE);
        }
        for (int i = 0; i < 3; i++) {
            x.cable(i, i + 1, 1, 20);
        }
        x.draft(0);
        x.send(0, 3, Codewordcable.ORDINARY, true);
        for (int office = 0; office < 4; office++) {
            x.key(office, office + 1);
        }
        x.forbid(2, true);
        for (int minute = 0; minute < 4; minute++) {
            reads("key 4 of five in minute " + minute, x, 0, 1);
            x.pass(1);
        }
        check.due("it was STOPPED before", x.ofMessage(0, 5), 2);
        x.key(2, 3);
        reads("the key of the office at which it was STOPPED", x, 0, 1);
        x.key(3, 3);
        reads("the key of the office to which it goes", x, 0, 2);
    }

    private static void readRefused() {
        check.refused("message 1", Check.INDEX, WrongTest::sent, y -> y.read(1, 0));
        check.refused("message -1", Check.INDEX, WrongTest::sent, y -> y.read(-1, 0));
        check.refused("place -1", Check.INDEX, WrongTest::sent, y -> y.read(0, -1));
        check.due("no refusal behind the last", sent().read(0, 5), NONE);
    }
}
