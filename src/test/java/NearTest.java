/** The edges of the book: phrases that are the same, code words that part too little, and what a word may have been. */
public final class NearTest {
    private static final int NONE = Codewordcable.NONE;
    private static final String WORD = "hotel";
    private static final Check check = new Check();

    public static void main(String[] args) {
        samePhrases();
        phrasesThatPart();
        partInNone();
        partInOne();
        partInTwo();
        nearToAnyEntry();
        theSame();
        oneLetterOff();
        twoLettersOff();
        twoLettersTurned();
        turnedIsOneOff();
        mostCandidates();
        sameAlone();
        readNear();
        check.end();
    }

    private static Codewordcable withWord() {
        Codewordcable x = new Codewordcable();
        Check.ideas(x, 20, 20, 20, 20, 20);
        x.entry(Check.code(WORD), 0, NONE, NONE, NONE);
        return x;
    }

    private static Codewordcable withPhrases() {
        Codewordcable x = withWord();
        x.entry(Check.code("alpha"), 0, 1, NONE, NONE);
        x.entry(Check.code("delta"), 0, 1, 2, NONE);
        x.entry(Check.code("bravo"), 0, 1, 2, 3);
        x.entry(Check.code("tango"), 4, 4, 4, 4);
        return x;
    }

    private static String with(String word, int place, char letter) {
        return word.substring(0, place) + letter + word.substring(place + 1);
    }

    private static String turned(String word, int place, int other) {
        return with(with(word, place, word.charAt(other)), other, word.charAt(place));
    }

    private static void refusedPhrase(int first, int second, int third, int fourth) {
        check.refused("the phrase " + first + " " + second + " " + third + " " + fourth, Check.STATE,
                NearTest::withPhrases, x -> x.entry(Check.code("yyzzz"), first, second, third, fourth));
    }

    private static void takenPhrase(int first, int second, int third, int fourth) {
        check.due("the phrase " + first + " " + second + " " + third + " " + fourth,
                withPhrases().entry(Check.code("yyzzz"), first, second, third, fourth), 5);
    }

    /** "No two entries have the same phrase": of each length. */
    private static void samePhrases() {
        refusedPhrase(0, NONE, NONE, NONE);
        refusedPhrase(0, 1, NONE, NONE);
        refusedPhrase(0, 1, 2, NONE);
        refusedPhrase(0, 1, 2, 3);
        refusedPhrase(4, 4, 4, 4);
    }

    /** Phrases that part in one idea, at each place, or that are the beginning of one or go on behind one. */
    private static void phrasesThatPart() {
        takenPhrase(1, NONE, NONE, NONE);
        takenPhrase(4, NONE, NONE, NONE);
        takenPhrase(4, 4, NONE, NONE);
        takenPhrase(4, 4, 4, NONE);
        takenPhrase(0, 0, NONE, NONE);
        takenPhrase(1, 1, NONE, NONE);
        takenPhrase(0, 1, 3, NONE);
        takenPhrase(0, 0, 2, NONE);
        takenPhrase(0, 1, 2, 4);
        takenPhrase(0, 1, 1, 3);
        takenPhrase(0, 2, 2, 3);
        takenPhrase(1, 1, 2, 3);
        takenPhrase(1, 0, NONE, NONE);
    }

    private static void partInNone() {
        check.refused("no letter parts", Check.STATE, NearTest::withWord,
                x -> x.entry(Check.code(WORD), 1, NONE, NONE, NONE));
    }

    /** "code words that part in fewer than two of the five letters": in one, at each place. */
    private static void partInOne() {
        for (int place = 0; place < 5; place++) {
            for (char letter = 'a'; letter <= 'z'; letter++) {
                int word = Check.code(with(WORD, place, letter));
                check.refused("parts at " + place + " by " + letter, Check.STATE, NearTest::withWord,
                        x -> x.entry(word, 1, NONE, NONE, NONE));
            }
        }
    }

    /** In two, at each two places: that is enough, also if they are turned. */
    private static void partInTwo() {
        for (int place = 0; place < 5; place++) {
            for (int other = place + 1; other < 5; other++) {
                String parted = with(with(WORD, place, 'z'), other, 'z');
                check.due(parted, withWord().entry(Check.code(parted), 1, NONE, NONE, NONE), 1);
                String turned = turned(WORD, place, other);
                check.due(turned, withWord().entry(Check.code(turned), 1, NONE, NONE, NONE), 1);
            }
        }
    }

    private static void nearToAnyEntry() {
        int[] near = {0, 1, 20, 37, 38};
        for (int entry : near) {
            check.refused("near to entry " + entry + " of 39", Check.STATE, () -> Scenes.withBook(39),
                    x -> x.entry(Scenes.codeOf(entry) + 2, 1, 1, NONE, NONE));
        }
        check.due("near to the entry that would be the 40th",
                Scenes.withBook(39).entry(Scenes.codeOf(39) + 2, 1, 1, NONE, NONE), 39);
    }

    private static void theSame() {
        check.due("the same", withWord().candidates(Check.code(WORD)), 1);
        check.due("the same, the entry", withWord().candidate(Check.code(WORD), 0), 0);
        check.due("the same, no more", withWord().candidate(Check.code(WORD), 1), NONE);
    }

    /** "parts from it in one letter": each letter at each place. */
    private static void oneLetterOff() {
        Codewordcable x = withWord();
        for (int place = 0; place < 5; place++) {
            for (char letter = 'a'; letter <= 'z'; letter += 5) {
                String word = with(WORD, place, letter);
                check.due(word, x.candidates(Check.code(word)), 1);
                check.due(word + ", the entry", x.candidate(Check.code(word), 0), 0);
                check.due(word + ", no more", x.candidate(Check.code(word), 1), NONE);
            }
        }
    }

    private static void twoLettersOff() {
        Codewordcable x = withWord();
        for (int place = 0; place < 5; place++) {
            for (int other = place + 1; other < 5; other++) {
                String word = with(with(WORD, place, 'z'), other, 'z');
                check.due(word, x.candidates(Check.code(word)), 0);
                check.due(word + ", none", x.candidate(Check.code(word), 0), NONE);
            }
        }
    }

    /** "two letters next to one another the other way round": the four such places, and the six that are not. */
    private static void twoLettersTurned() {
        Codewordcable x = withWord();
        for (int place = 0; place < 5; place++) {
            for (int other = place + 1; other < 5; other++) {
                String word = turned(WORD, place, other);
                boolean next = other == place + 1;
                check.due(word, x.candidates(Check.code(word)), next ? 1 : 0);
                check.due(word + ", the entry", x.candidate(Check.code(word), 0), next ? 0 : NONE);
            }
        }
        for (int place = 0; place < 4; place++) {
            String word = turned(WORD, place, place + 1);
            String half = with(word, place, 'z');
            String more = with(word, (place + 3) % 5, 'z');
            check.due(half + ", one of the turned is another", x.candidates(Check.code(half)), 0);
            check.due(more + ", turned and another letter off", x.candidates(Check.code(more)), 0);
        }
        for (int place = 0; place < 4; place++) {
            String first = with(with(WORD, place, WORD.charAt(place + 1)), place + 1, 'z');
            String second = with(with(WORD, place + 1, WORD.charAt(place)), place, 'z');
            check.due(first + ", the second letter alone moved", x.candidates(Check.code(first)), 0);
            check.due(second + ", the first letter alone moved", x.candidates(Check.code(second)), 0);
        }
        check.due("turned at both ends", x.candidates(Check.code("ohtle")), 0);
        check.due("three in a ring", x.candidates(Check.code("othel")), 0);
    }

    /** Letters that are the same: to turn them changes nothing. */
    private static void turnedIsOneOff() {
        Codewordcable x = withWord();
        x.entry(Check.code("aabbb"), 1, NONE, NONE, NONE);
        check.due("the same letters turned", x.candidates(Check.code("aabbb")), 1);
        check.due("turned between them", x.candidate(Check.code("ababb"), 0), 1);
        check.due("the first of them off", x.candidate(Check.code("babbb"), 0), 1);
        check.due("turned over one", x.candidates(Check.code("baabb")), 0);
    }

    /** No word can have more: five entries that part from it in one letter, four that are turned; and two others. */
    private static void mostCandidates() {
        String[] book = {"abcdz", "mmmmm", "bacde", "abzzz", "abced", "abzde", "abdce", "azcde", "acbde", "zbcde",
            "abcze"};
        int[] want = {0, 2, 4, 5, 6, 7, 8, 9, 10};
        Codewordcable x = new Codewordcable();
        Check.ideas(x, 20, 20, 20, 20);
        for (int i = 0; i < book.length; i++) {
            check.due(book[i], x.entry(Check.code(book[i]), i % 4, i / 4, NONE, NONE), i);
        }
        int word = Check.code("abcde");
        check.due("how many", x.candidates(word), 9);
        for (int place = 0; place < want.length; place++) {
            check.due("candidate " + place, x.candidate(word, place), want[place]);
        }
        check.due("behind the ninth", x.candidate(word, 9), NONE);
        check.due("at the place of the last entry", x.candidate(word, 39), NONE);
        check.due("at the place 40", x.candidate(word, 40), NONE);
    }

    /** "one of the book that is the same; if there is none, each ..": the same one stands alone. */
    private static void sameAlone() {
        Codewordcable x = withWord();
        x.entry(Check.code("ohtel"), 1, NONE, NONE, NONE);
        check.due("the same and one turned", x.candidates(Check.code(WORD)), 1);
        check.due("the same, the lower", x.candidate(Check.code(WORD), 0), 0);
        check.due("the same and one turned, the other way", x.candidates(Check.code("ohtel")), 1);
        check.due("the same, the higher", x.candidate(Check.code("ohtel"), 0), 1);
        check.due("between both: one off of each", x.candidates(Check.code("ootel")), 2);
    }

    /** "it is an idea row if there is one such alone; .. otherwise it is UNCLEAR": none, one, two. */
    private static void readNear() {
        Codewordcable x = withWord();
        x.entry(Check.code("ohtel"), 1, 2, NONE, NONE);
        Check.offices(x, 2);
        x.cable(0, 1, 1, 1);
        Check.drafts(x, 0);
        x.send(0, 1, Codewordcable.ORDINARY, true);
        check.due("the same", x.read(0, 0), 0);
        x.wrong(0, 0, 0, 'o' - 'a');
        check.due("two such", x.read(0, 0), Codewordcable.UNCLEAR);
        check.due("two such, behind it", x.read(0, 1), NONE);
        x.wrong(0, 0, 1, 'h' - 'a');
        check.due("the same as another", x.read(0, 0), 1);
        check.due("its second idea", x.read(0, 1), 2);
        x.wrong(0, 0, 4, 'k' - 'a');
        check.due("one letter off the other alone", x.read(0, 0), 1);
        x.wrong(0, 0, 3, 'k' - 'a');
        check.due("none", x.read(0, 0), Codewordcable.UNCLEAR);
        check.due("none, behind it", x.read(0, 1), NONE);
    }
}
