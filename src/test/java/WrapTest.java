/**
 * What is reckoned modulo how many entries there are, and what is divided and rounded: keys above the last entry,
 * an entry's number less the key below 0, letters by words, minutes by days, the letters of a code word.
 */
public final class WrapTest {
    private static final int NONE = Codewordcable.NONE;
    private static final Check check = new Check();

    public static void main(String[] args) {
        int[] sizes = {1, 2, 3, 26, 27, 39, 40};
        for (int size : sizes) {
            for (int key = 0; key < 40; key++) {
                keyOfSending(size, key, 0);
                keyOfSending(size, key, size - 1);
                keyOfReading(size, key, 0);
                keyOfReading(size, key, size - 1);
            }
        }
        bookThatGrows();
        keysOfBothOffices();
        plainWords();
        plainWordsBesideCode();
        codeWords();
        dayEdges();
        daysThatNeverCome();
        lettersOfCode();
        vowelLetters();
        vowelsWanted();
        check.end();
    }

    /** Sends the phrase of an entry alone, as the code word of the one that the key tells. */
    private static Codewordcable sent(int size, int key, int entry) {
        Codewordcable x = Scenes.withBook(size);
        x.key(0, key);
        x.draft(entry % 30);
        if (entry >= 30) {
            x.draft(0);
        }
        x.send(0, 1, Codewordcable.URGENT, true);
        return x;
    }

    private static void readsAs(String what, Codewordcable x, int entry) {
        check.due(what, x.read(0, 0), entry % 30);
        check.due(what + ", its second idea", x.read(0, 1), entry < 30 ? NONE : 0);
    }

    /** "that whose number is its own and the key .., modulo how many entries there are as it is sent". */
    private static void keyOfSending(int size, int key, int entry) {
        String what = "entry " + entry + " of " + size + ", sent by key " + key;
        check.due(what, sent(size, key, entry).word(0, 0, true), Scenes.codeOf((entry + key) % size));
    }

    /** "the entry whose number is its own less the key .., modulo how many entries there are now". */
    private static void keyOfReading(int size, int key, int entry) {
        Codewordcable x = sent(size, 0, entry);
        x.key(1, key);
        readsAs("entry " + entry + " of " + size + ", read by key " + key, x, (entry + 40 * size - key) % size);
    }

    /** Sent by key 39 of 3 entries, read by it when there are 3, 4, 39 and 40. */
    private static void bookThatGrows() {
        Codewordcable x = sent(3, 38, 0);
        x.key(1, 38);
        check.due("0 and 38 of 3", x.word(0, 0, true), Scenes.codeOf(2));
        for (int size = 3; size <= 40; size++) {
            if (size > 3) {
                int entry = size - 1;
                x.entry(Scenes.codeOf(entry), entry % 30, entry < 30 ? NONE : 0, NONE, NONE);
            }
            readsAs("2 less 38 of " + size, x, (2 - 38 + 40 * size) % size);
            check.due("the word stays, of " + size, x.word(0, 0, false), Scenes.codeOf(2));
        }
        x.draft(2);
        x.key(0, 39);
        check.due("2 and 39 of 40, sent", x.send(0, 1, Codewordcable.URGENT, true), 1);
        check.due("2 and 39 of 40", x.word(1, 0, true), Scenes.codeOf(1));
    }

    /** A message is sent by the key of the first office as it is sent, and read by that of the last one now. */
    private static void keysOfBothOffices() {
        Codewordcable x = sent(5, 4, 3);
        x.key(1, 4);
        readsAs("both keys 4", x, 3);
        x.key(0, 0);
        readsAs("the first office's key is another one then", x, 3);
        x.key(1, 39);
        readsAs("39 is 4 modulo 5", x, 3);
        x.key(1, 0);
        readsAs("the last office's key is 0 again", x, 2);
        x.pass(1);
        x.key(1, 3);
        readsAs("the key is revised when the message came", x, 4);
    }

    private static Codewordcable oneIdea(int letters) {
        Codewordcable x = new Codewordcable();
        Check.offices(x, 2);
        x.idea(letters);
        x.draft(0);
        return x;
    }

    private static int roundedUp(int letters, int by) {
        int words = 0;
        for (int left = letters; left > 0; left -= by) {
            words++;
        }
        return words;
    }

    /** "its letters, divided by the letters of a plain word, rounded up": 1 to 20 by 5 to 20, and by 15 at first. */
    private static void plainWords() {
        for (int letters = 1; letters <= 20; letters++) {
            check.due(letters + " letters at first", oneIdea(letters).words(0, false), letters > 15 ? 2 : 1);
            for (int plain = 5; plain <= 20; plain++) {
                Codewordcable x = oneIdea(letters);
                x.conference(0, plain, plain % 3 * 5 + 5, plain % 4);
                check.due(letters + " letters by " + plain, x.words(0, false), roundedUp(letters, plain));
                check.due(letters + " letters by " + plain + ", packed", x.words(0, true), roundedUp(letters, plain));
            }
        }
    }

    /** "if there is a code word in the message, divided by those of code": beside a code word that saves much. */
    private static void plainWordsBesideCode() {
        for (int letters = 1; letters <= 20; letters++) {
            for (int code = 5; code <= 15; code += 5) {
                Codewordcable x = oneIdea(letters);
                x.idea(20);
                x.entry(0, 1, 1, 1, 1);
                x.conference(0, 5, code, 0);
                Check.drafts(x, 1, 1, 1, 1);
                check.due(letters + " letters beside code by " + code, x.words(0, true), roundedUp(letters, code) + 1);
                check.due(letters + " letters without code by 5", x.words(0, false), roundedUp(letters, 5) + 16);
            }
        }
    }

    /** "All code words together are paid as many words as their letters, divided by the letters of code". */
    private static void codeWords() {
        for (int code = 5; code <= 15; code += 5) {
            Codewordcable x = Scenes.withBook(1);
            x.conference(0, 5, code, 0);
            for (int words = 1; words <= 24; words++) {
                x.draft(0);
                check.due(words + " code words by " + code, x.words(0, true), roundedUp(words * 5, code));
            }
        }
    }

    /** "Days are minutes by 1440, rounded down": the last minute before a day, and its first one. */
    private static void dayEdges() {
        int[] days = {1, 2, 3, 600, 694};
        for (int day : days) {
            Codewordcable x = Scenes.withBook(0);
            x.conference(day, 5, 5, 0);
            x.draft(0);
            Scenes.passTo(x, 0, day * 1440 - 1);
            check.due("the last minute before day " + day, x.words(0, false), 2);
            check.due("the first minute of day " + day, x.pass(1), day * 1440);
            check.due("on day " + day, x.words(0, false), 4);
        }
        Codewordcable x = Scenes.withBook(0);
        x.draft(0);
        x.rest(5);
        x.conference(5, 5, 5, 0);
        check.due("told on its day", x.words(0, false), 4);
        x.conference(0, 20, 5, 0);
        check.due("told when its day is past", x.words(0, false), 1);
    }

    /** The minute 1000000 is of the day 694. */
    private static void daysThatNeverCome() {
        Codewordcable x = Scenes.withBook(0);
        x.draft(0);
        x.conference(694, 10, 5, 0);
        x.conference(695, 5, 5, 0);
        x.conference(1000, 20, 5, 0);
        Scenes.passTo(x, 0, 1000000);
        check.due("at the last minute the conference of day 694", x.reserve(1, 3), 1);
        check.due("its words", x.words(0, false), 2);
        check.due("without it the rules at first", x.reserve(1, 1), 0);
    }

    /** "the first letter, 0 to 25, times 26 and the next one, and so on". */
    private static void lettersOfCode() {
        int[] weights = {456976, 17576, 676, 26, 1};
        for (int letter = 0; letter < 5; letter++) {
            for (int to = 0; to < 26; to++) {
                Codewordcable low = sent(1, 0, 0);
                check.due("letter " + letter + " becomes " + to, low.wrong(0, 0, letter, to), to * weights[letter]);
                check.due("its claim", low.claim(0), to == 0 ? NONE : letter);
                Codewordcable high = highest();
                check.due("letter " + letter + " of zzzzz becomes " + to, high.wrong(0, 0, letter, to),
                        Scenes.LAST_CODE - (25 - to) * weights[letter]);
                check.due("its claim", high.claim(0), to == 25 ? NONE : letter);
            }
        }
    }

    private static Codewordcable highest() {
        Codewordcable x = oneIdea(20);
        x.cable(0, 1, 1, 1);
        x.entry(Scenes.LAST_CODE, 0, NONE, NONE, NONE);
        x.send(0, 1, Codewordcable.URGENT, true);
        return x;
    }

    private static Codewordcable wantedOf(String letters, int vowels) {
        Codewordcable x = oneIdea(20);
        x.entry(Check.code(letters), 0, NONE, NONE, NONE);
        x.conference(0, 15, 5, vowels);
        return x;
    }

    /** Each of the 26 letters at each of the five places, beside consonants: five of them are vowels. */
    private static void vowelLetters() {
        for (int place = 0; place < 5; place++) {
            for (char letter = 'a'; letter <= 'z'; letter++) {
                String word = "bcdfg".substring(0, place) + letter + "bcdfg".substring(place + 1);
                boolean vowel = "aeiou".indexOf(letter) >= 0;
                check.due(word + ", a vowel wanted", wantedOf(word, 1).words(0, true), vowel ? 1 : 2);
                check.due(word + ", none wanted", wantedOf(word, 0).words(0, true), 1);
                check.due(word + ", two wanted", wantedOf(word, 2).words(0, true), 2);
            }
        }
    }

    /** 0 to 5 vowels in a word, 0 to 3 wanted, and none wanted by the rules at first. */
    private static void vowelsWanted() {
        String[] words = {"bcdfg", "bcdfu", "bodfu", "bodau", "eodau", "eiiau"};
        for (int there = 0; there <= 5; there++) {
            for (int wanted = 0; wanted <= 3; wanted++) {
                Codewordcable x = wantedOf(words[there], wanted);
                check.due(words[there] + ", wanted " + wanted, x.words(0, true), there >= wanted ? 1 : 2);
                x.reserve(0, 1);
                check.due(words[there] + ", none wanted at first", x.words(0, true), 1);
            }
        }
    }
}
