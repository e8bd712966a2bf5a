/** Promises 2 to 5: ideas, entries, and what a word may have been. */
public final class BookTest {
    private static final int NONE = Codewordcable.NONE;
    private static final Check check = new Check();

    public static void main(String[] args) {
        ideas();
        entries();
        entriesRefused();
        fullBook();
        nearCodes();
        candidates();
        candidatesRefused();
        check.end();
    }

    private static Codewordcable threeIdeas() {
        Codewordcable x = new Codewordcable();
        Check.ideas(x, 4, 9, 20);
        return x;
    }

    private static Codewordcable small() {
        Codewordcable x = threeIdeas();
        x.entry(Check.code("aaaaa"), 0, NONE, NONE, NONE);
        x.entry(Check.code("bbaaa"), 0, 1, NONE, NONE);
        return x;
    }

    private static Codewordcable full() {
        Codewordcable x = new Codewordcable();
        for (int i = 0; i < 30; i++) {
            x.idea(20);
        }
        for (int i = 0; i < 40; i++) {
            int letter = i % 26;
            int word = ((letter * 26 + letter) * 26 + i / 26) * 26 + i / 26;
            x.entry(word, i % 30, i / 30 == 0 ? NONE : 0, NONE, NONE);
        }
        return x;
    }

    private static void ideas() {
        Codewordcable x = new Codewordcable();
        for (int i = 0; i < 30; i++) {
            check.due("idea " + i, x.idea(i % 20 + 1), i);
        }
        check.due("the last idea in a draft", x.draft(29), 1);
        check.refused("idea(0)", Check.ARGUMENT, BookTest::small, y -> y.idea(0));
        check.refused("idea(21)", Check.ARGUMENT, BookTest::small, y -> y.idea(21));
        check.refused("idea(-5)", Check.ARGUMENT, Codewordcable::new, y -> y.idea(-5));
        check.refused("a 31st idea", Check.STATE, BookTest::full, y -> y.idea(1));
        check.refused("a 31st idea of 0 letters", Check.ARGUMENT, BookTest::full, y -> y.idea(0));
    }

    private static void entries() {
        Codewordcable x = threeIdeas();
        check.due("entry 0", x.entry(0, 0, NONE, NONE, NONE), 0);
        check.due("entry 1", x.entry(11881375, 0, 1, NONE, NONE), 1);
        check.due("entry 2", x.entry(Check.code("bbbbb"), 0, 1, 2, NONE), 2);
        check.due("entry 3", x.entry(Check.code("ccccc"), 0, 1, 2, 2), 3);
        check.due("the phrase the other way round", x.entry(Check.code("ddddd"), 1, 0, NONE, NONE), 4);
    }

    private static void entriesRefused() {
        Check.Scene scene = BookTest::small;
        int word = Check.code("zzzzz");
        check.refused("first NONE", Check.INDEX, scene, y -> y.entry(word, NONE, NONE, NONE, NONE));
        check.refused("no such first", Check.INDEX, scene, y -> y.entry(word, 3, NONE, NONE, NONE));
        check.refused("no such second", Check.INDEX, scene, y -> y.entry(word, 0, 3, NONE, NONE));
        check.refused("no such third", Check.INDEX, scene, y -> y.entry(word, 0, 0, -2, NONE));
        check.refused("no such fourth", Check.INDEX, scene, y -> y.entry(word, 0, 0, 0, 30));
        check.refused("no such fourth, word too", Check.INDEX, scene, y -> y.entry(-1, 0, NONE, 0, 30));
        check.refused("word -1", Check.ARGUMENT, scene, y -> y.entry(-1, 2, NONE, NONE, NONE));
        check.refused("word 26^5", Check.ARGUMENT, scene, y -> y.entry(11881376, 2, NONE, NONE, NONE));
        check.refused("third behind NONE", Check.ARGUMENT, scene, y -> y.entry(word, 2, NONE, 1, NONE));
        check.refused("fourth behind NONE", Check.ARGUMENT, scene, y -> y.entry(word, 2, 1, NONE, 1));
        check.refused("both behind NONE", Check.ARGUMENT, scene, y -> y.entry(0, 0, NONE, 1, 1));
        check.refused("phrase of one", Check.STATE, scene, y -> y.entry(word, 0, NONE, NONE, NONE));
        check.refused("phrase of two", Check.STATE, scene, y -> y.entry(word, 0, 1, NONE, NONE));
        check.refused("same code", Check.STATE, scene, y -> y.entry(0, 2, NONE, NONE, NONE));
        check.refused("code one letter off", Check.STATE, scene, y -> y.entry(25, 2, NONE, NONE, NONE));
    }

    private static void fullBook() {
        check.due("the 40 entries", full().candidate(Check.code("annbb"), 0), 39);
        int word = Check.code("zyxwv");
        check.refused("a 41st", Check.STATE, BookTest::full, y -> y.entry(word, 1, 2, 3, NONE));
        check.refused("a 41st of no idea", Check.INDEX, BookTest::full, y -> y.entry(word, 30, NONE, NONE, NONE));
        check.refused("a 41st of no word", Check.ARGUMENT, BookTest::full, y -> y.entry(-9, 1, 2, 3, NONE));
    }

    private static void nearCodes() {
        String[] near = {"aaaab", "aaaza", "aabaa", "azaaa", "qaaaa", "bbaab", "bbzaa", "abaaa"};
        for (String letters : near) {
            int word = Check.code(letters);
            check.refused(letters, Check.STATE, BookTest::small, y -> y.entry(word, 2, NONE, NONE, NONE));
        }
        String[] apart = {"aaabb", "zaaaz", "acaca", "bbbba"};
        for (String letters : apart) {
            check.due(letters, small().entry(Check.code(letters), 2, NONE, NONE, NONE), 2);
        }
    }

    private static Codewordcable forReading() {
        Codewordcable x = threeIdeas();
        x.entry(Check.code("abcde"), 0, NONE, NONE, NONE);
        x.entry(Check.code("bacdf"), 1, NONE, NONE, NONE);
        x.entry(Check.code("abdcf"), 2, NONE, NONE, NONE);
        x.entry(Check.code("zzzzy"), 2, 2, NONE, NONE);
        return x;
    }

    private static void candidates() {
        Codewordcable x = forReading();
        check.due("the same alone", x.candidates(Check.code("abcde")), 1);
        check.due("the same, its entry", x.candidate(Check.code("bacdf"), 0), 1);
        int word = Check.code("abcdf");
        check.due("one letter and two turned", x.candidates(word), 3);
        for (int place = 0; place < 3; place++) {
            check.due("candidate " + place, x.candidate(word, place), place);
        }
        check.due("behind the last", x.candidate(word, 3), NONE);
        check.due("far behind the last", x.candidate(word, Integer.MAX_VALUE), NONE);
        check.due("last two turned", x.candidate(Check.code("zzzyz"), 0), 3);
        check.due("last two turned, how many", x.candidates(Check.code("zzzyz")), 1);
        check.due("two turned that stand apart", x.candidates(Check.code("cbade")), 0);
        check.due("turned and one more", x.candidates(Check.code("bacdz")), 1);
        check.due("two letters off", x.candidates(Check.code("zzzaa")), 0);
        check.due("none, the first", x.candidate(Check.code("zzzaa"), 0), NONE);
        check.due("first letter off", x.candidate(Check.code("qbcde"), 0), 0);
        check.due("an empty book", new Codewordcable().candidates(0), 0);
        check.due("an empty book, the first", new Codewordcable().candidate(0, 0), NONE);
        Codewordcable turned = threeIdeas();
        turned.entry(Check.code("abcde"), 0, NONE, NONE, NONE);
        turned.entry(Check.code("bacde"), 1, NONE, NONE, NONE);
        check.due("the same ahead of one that is turned", turned.candidates(Check.code("bacde")), 1);
        check.due("the same one's entry", turned.candidate(Check.code("bacde"), 0), 1);
        check.due("no second one", turned.candidate(Check.code("bacde"), 1), NONE);
        Codewordcable same = small();
        check.due("a turn of two that are the same", same.candidates(Check.code("aaaaa")), 1);
        check.due("between both", same.candidates(Check.code("abaaa")), 2);
        check.due("between both, the lower", same.candidate(Check.code("baaaa"), 0), 0);
        check.due("between both, the higher", same.candidate(Check.code("baaaa"), 1), 1);
    }

    private static void candidatesRefused() {
        check.refused("candidates(-1)", Check.ARGUMENT, BookTest::small, y -> y.candidates(-1));
        check.refused("candidates(26^5)", Check.ARGUMENT, BookTest::small, y -> y.candidates(11881376));
        check.due("candidates(26^5 - 1)", small().candidates(11881375), 0);
        check.refused("place -1", Check.INDEX, BookTest::small, y -> y.candidate(0, -1));
        check.refused("place -1, word -1", Check.INDEX, BookTest::small, y -> y.candidate(-1, -1));
        check.refused("word -1", Check.ARGUMENT, BookTest::small, y -> y.candidate(-1, 0));
        check.refused("word 26^5", Check.ARGUMENT, BookTest::small, y -> y.candidate(11881376, 9));
    }
}
