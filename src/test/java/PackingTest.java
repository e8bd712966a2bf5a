/** Promises 13 and 14, and how promise 15 cuts a message: drafts, and the words to be paid for them. */
public final class PackingTest {
    private static final int NONE = Codewordcable.NONE;
    private static final Check check = new Check();

    public static void main(String[] args) {
        drafts();
        plain();
        codeTogether();
        plainBesideCode();
        fewestCodeWords();
        codeAheadOfPlain();
        longestFirst();
        laterPlaces();
        keys();
        keysAndVowels();
        longDraft();
        refused();
        check.end();
    }

    /** Two offices, a cable, and ideas of so many letters. */
    private static Codewordcable with(int... letters) {
        Codewordcable x = new Codewordcable();
        Check.offices(x, 2);
        x.cable(0, 1, 1, 20);
        Check.ideas(x, letters);
        return x;
    }

    private static Codewordcable fullDraft() {
        Codewordcable x = with(20, 3);
        for (int i = 0; i < 24; i++) {
            x.draft(i % 2);
        }
        return x;
    }

    private static int plainOf(int idea) {
        return NONE - idea - 1;
    }

    /** Sends the draft packed and checks its words, as they were sent. */
    private static void sent(String what, Codewordcable x, int paid, int... words) {
        check.due(what + ", words", x.words(0, true), paid);
        int message = x.send(0, 1, Codewordcable.ORDINARY, true);
        check.due(what + ", paid", x.ofMessage(message, 2), paid);
        check.due(what + ", its words", x.ofMessage(message, 1), words.length);
        for (int i = 0; i < words.length && i < x.ofMessage(message, 1); i++) {
            check.due(what + ", word " + i, x.word(message, i, true), words[i]);
        }
        check.due(what + ", the draft then", x.words(0, true), 0);
    }

    private static void drafts() {
        Codewordcable x = with(20, 3);
        for (int i = 1; i <= 24; i++) {
            check.due("draft " + i, x.draft(i % 2), i);
        }
        check.due("a full draft", x.words(0, false), 36);
    }

    private static void plain() {
        int[] letters = {1, 5, 14, 15, 16, 20};
        int[] first = {1, 1, 1, 1, 2, 2};
        int[] fives = {1, 1, 3, 3, 4, 4};
        for (int i = 0; i < letters.length; i++) {
            Codewordcable x = with(letters[i]);
            check.due("an empty draft, plain", x.words(0, false), 0);
            check.due("an empty draft, packed", x.words(0, true), 0);
            x.draft(0);
            check.due("15 letters of " + letters[i], x.words(0, false), first[i]);
            check.due("packed without a book", x.words(0, true), first[i]);
            x.conference(0, 5, 15, 0);
            check.due("5 letters of " + letters[i], x.words(0, false), fives[i]);
        }
        Codewordcable x = with(16, 1);
        x.entry(0, 0, NONE, NONE, NONE);
        Check.drafts(x, 0, 1);
        check.due("each is rounded up", x.words(0, false), 3);
        int message = x.send(0, 1, Codewordcable.DEFERRED, false);
        check.due("sent plain in spite of the book", x.word(message, 0, true), plainOf(0));
        check.due("sent plain, paid", x.ofMessage(message, 2), 3);
    }

    private static void codeTogether() {
        Codewordcable x = with(20);
        int word = Check.code("abcde");
        x.entry(word, 0, NONE, NONE, NONE);
        Check.drafts(x, 0, 0);
        sent("two words of ten letters", x, 1, word, word);
        Check.drafts(x, 0, 0, 0);
        sent("three words of ten letters", x, 2, word, word, word);
        x.conference(0, 15, 15, 0);
        Check.drafts(x, 0, 0, 0);
        sent("three words of fifteen letters", x, 1, word, word, word);
        x.conference(0, 15, 5, 0);
        Check.drafts(x, 0, 0, 0);
        sent("three words of five letters", x, 3, word, word, word);
    }

    /** With a code word in it, plain words are divided by the letters of code. */
    private static void plainBesideCode() {
        Codewordcable x = with(15, 20);
        int word = Check.code("abcde");
        x.entry(word, 1, NONE, NONE, NONE);
        Check.drafts(x, 0, 1);
        sent("3 words plain, 2 and 1 with code: plain", x, 3, plainOf(0), plainOf(1));
        Check.drafts(x, 0, 1, 1);
        sent("5 words plain, 2 and 1 with code", x, 3, plainOf(0), word, word);
        x.conference(0, 5, 15, 0);
        Check.drafts(x, 0, 1);
        sent("7 words plain, 1 and 1 with code", x, 2, plainOf(0), word);
        x.conference(0, 15, 5, 0);
        Check.drafts(x, 0, 1, 1);
        sent("5 words plain, 3 and 2 with code: plain", x, 5, plainOf(0), plainOf(1), plainOf(1));
    }

    private static void fewestCodeWords() {
        Codewordcable x = with(10, 10);
        int first = Check.code("aaaaa");
        int second = Check.code("bbbbb");
        int both = Check.code("ccccc");
        x.entry(first, 0, NONE, NONE, NONE);
        x.entry(second, 1, NONE, NONE, NONE);
        x.draft(0);
        sent("as dear plain: no code word", x, 1, plainOf(0));
        Check.drafts(x, 0, 1);
        sent("two code words for one", x, 1, first, second);
        x.entry(both, 0, 1, NONE, NONE);
        Check.drafts(x, 0, 1);
        sent("one code word for one", x, 1, both);
        Check.drafts(x, 0, 1, 0, 1);
        sent("two code words, not four", x, 1, both, both);
        Codewordcable y = with(20, 10);
        y.entry(first, 0, NONE, NONE, NONE);
        y.entry(second, 1, NONE, NONE, NONE);
        Check.drafts(y, 0, 0, 1, 1);
        sent("3 words, by two code words and two plain ones", y, 2, first, first, second, second);
    }

    private static void codeAheadOfPlain() {
        Codewordcable x = with(10, 20);
        int word = Check.code("aaaaa");
        int other = Check.code("bbbbb");
        x.entry(word, 0, NONE, NONE, NONE);
        x.entry(other, 1, NONE, NONE, NONE);
        x.conference(0, 5, 10, 0);
        Check.drafts(x, 0, 0, 0);
        sent("code at the first of three", x, 2, word, word, plainOf(0));
        Check.drafts(x, 0, 0);
        sent("both in one", x, 1, word, word);
        Check.drafts(x, 1, 0, 1);
        sent("code where it is worth more", x, 2, other, plainOf(0), other);
    }

    private static void longestFirst() {
        Codewordcable x = with(20, 20, 20);
        int two = Check.code("aaaaa");
        int three = Check.code("bbbbb");
        int one = Check.code("ccccc");
        x.entry(two, 0, 1, NONE, NONE);
        x.entry(three, 0, 1, 2, NONE);
        x.entry(one, 2, 2, NONE, NONE);
        int last = Check.code("ddddd");
        x.entry(last, 2, NONE, NONE, NONE);
        Check.drafts(x, 0, 1, 2, 2);
        sent("three and one ahead of two and two", x, 1, three, last);
        Codewordcable y = with(20, 20, 20);
        y.entry(one, 0, NONE, NONE, NONE);
        y.entry(last, 0, 0, 0, NONE);
        y.entry(two, 0, 0, NONE, NONE);
        y.entry(three, 0, 0, 0, 0);
        Check.drafts(y, 0, 0, 0, 0, 0);
        sent("four and one ahead of three and two", y, 1, three, one);
        Check.drafts(y, 0, 0, 0, 0, 0, 0, 0);
        sent("four and three", y, 1, three, last);
        Check.drafts(y, 0, 0, 0, 0);
        sent("four alone", y, 1, three);
    }

    /** The first place at which two ways part decides, not the longest phrase of all. */
    private static void laterPlaces() {
        Codewordcable x = with(20);
        int one = Check.code("aaaaa");
        int two = Check.code("bbbbb");
        int four = Check.code("ddddd");
        x.entry(one, 0, NONE, NONE, NONE);
        x.entry(two, 0, 0, NONE, NONE);
        x.entry(four, 0, 0, 0, 0);
        x.conference(0, 5, 15, 0);
        Check.drafts(x, 0, 0, 0, 0, 0, 0, 0);
        sent("four, two, one", x, 1, four, two, one);
        Codewordcable y = with(20, 1);
        y.entry(one, 1, 0, NONE, NONE);
        y.entry(two, 0, 0, NONE, NONE);
        y.entry(four, 0, 0, 1, NONE);
        y.conference(0, 10, 5, 0);
        Check.drafts(y, 0, 0, 1, 0);
        sent("the second way is cheaper though it begins shorter", y, 2, two, one);
        Check.drafts(y, 0, 0, 1, 1);
        sent("three and a plain one ahead of two and two plain ones", y, 2, four, plainOf(1));
    }

    private static void keys() {
        Codewordcable x = with(20, 20, 20);
        int[] words = {Check.code("aaaaa"), Check.code("bbbbb"), Check.code("ccccc")};
        for (int i = 0; i < 3; i++) {
            x.entry(words[i], i, NONE, NONE, NONE);
        }
        for (int key = 0; key < 40; key++) {
            x.key(0, key);
            if (key < 4 || key > 37) {
                Check.drafts(x, 0, 1);
                sent("key " + key, x, 1, words[key % 3], words[(key + 1) % 3]);
            }
        }
        x.key(1, 2);
        x.draft(2);
        int message = x.send(1, 0, Codewordcable.URGENT, true);
        check.due("the key of the office from which it comes", x.word(message, 0, true), words[1]);
        x.entry(Check.code("ddddd"), 0, 1, NONE, NONE);
        x.draft(2);
        message = x.send(1, 0, Codewordcable.URGENT, true);
        check.due("modulo how many there are as it is sent", x.word(message, 0, true), words[0]);
        check.due("the one before stays", x.word(message - 1, 0, true), words[1]);
    }

    /** Whether a code word may be used is asked of the one that is sent. */
    private static void keysAndVowels() {
        Codewordcable x = with(20);
        int dumb = Check.code("bbbbb");
        int loud = Check.code("aaaaa");
        x.entry(dumb, 0, NONE, NONE, NONE);
        x.entry(loud, 0, 0, NONE, NONE);
        x.conference(0, 15, 10, 2);
        x.draft(0);
        check.due("its own word may not be used", x.words(0, true), 2);
        x.key(0, 1);
        sent("the other's may", x, 1, loud);
        Check.drafts(x, 0, 0);
        sent("and then not that of the phrase of two", x, 1, loud, loud);
        x.reserve(0, 1);
        Check.drafts(x, 0, 0);
        sent("the old rules want no vowels", x, 1, dumb);
        Check.drafts(x, 0, 0, 0);
        check.due("at the other office they do", x.words(1, true), 3);
        check.due("plain it is all one", x.words(1, false), 6);
    }

    private static void longDraft() {
        Codewordcable x = with(20, 1);
        int one = Check.code("aaaaa");
        int two = Check.code("bbbbb");
        x.entry(one, 0, NONE, NONE, NONE);
        for (int i = 0; i < 24; i++) {
            x.draft(0);
        }
        check.due("24 words plain", x.words(0, false), 48);
        check.due("24 code words", x.words(0, true), 12);
        x.entry(two, 0, 0, 0, 0);
        sent("six of four", x, 3, two, two, two, two, two, two);
        for (int i = 0; i < 24; i++) {
            x.draft(i == 23 ? 0 : 1);
        }
        int[] words = new int[24];
        for (int i = 0; i < 24; i++) {
            words[i] = i == 23 ? one : plainOf(1);
        }
        sent("a code word at the last place", x, 24, words);
    }

    private static void refused() {
        check.refused("draft(2)", Check.INDEX, () -> with(20, 3), y -> y.draft(2));
        check.refused("draft(-1)", Check.INDEX, () -> with(20, 3), y -> y.draft(NONE));
        check.refused("a 25th", Check.STATE, PackingTest::fullDraft, y -> y.draft(0));
        check.refused("a 25th that is not there", Check.INDEX, PackingTest::fullDraft, y -> y.draft(2));
        check.refused("words(2, true)", Check.INDEX, PackingTest::fullDraft, y -> y.words(2, true));
        check.refused("words(-1, false)", Check.INDEX, PackingTest::fullDraft, y -> y.words(-1, false));
    }
}
