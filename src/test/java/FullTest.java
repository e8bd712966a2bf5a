/** The empty and the full state of each thing: nothing told yet, and as many as there can be, with the last one used. */
public final class FullTest {
    private static final int NONE = Codewordcable.NONE;
    private static final Check check = new Check();

    public static void main(String[] args) {
        nothingAtAll();
        noEntry();
        noCable();
        noConference();
        emptyDraft();
        fullOfIdeas();
        fullOfEntries();
        longestPhrase();
        fullOfOffices();
        fullOfCables();
        fullOfConferences();
        fullDraft();
        longestMessage();
        fullOfMessages();
        dearestMessage();
        check.end();
    }

    private static void index(String what, Check.Scene scene, Check.Call call) {
        check.refused(what, Check.INDEX, scene, call);
    }

    private static void state(String what, Check.Scene scene, Check.Call call) {
        check.refused(what, Check.STATE, scene, call);
    }

    /** "No ideas, no offices, the minute 0": and so no entry, cable, conference or message. */
    private static void nothingAtAll() {
        Check.Scene none = Codewordcable::new;
        index("no idea: entry", none, x -> x.entry(0, 0, NONE, NONE, NONE));
        index("no idea: draft", none, x -> x.draft(0));
        index("no office: cable", none, x -> x.cable(0, 1, 1, 1));
        index("no office: forbid", none, x -> x.forbid(0, true) ? 1 : 0);
        index("no office: key", none, x -> x.key(0, 0));
        index("no office: reserve", none, x -> x.reserve(0, 1));
        index("no office: words", none, x -> x.words(0, false));
        index("no office: send", none, x -> x.send(0, 1, 1, true));
        index("no office: account", none, x -> x.account(0));
        index("no office: accountAnew", none, x -> x.accountAnew(0));
        index("no cable: broken", none, x -> x.broken(0, false));
        index("no message: wrong", none, x -> x.wrong(0, 0, 0, 0));
        index("no message: ofMessage", none, x -> x.ofMessage(0, 0));
        index("no message: word", none, x -> x.word(0, 0, true));
        index("no message: read", none, x -> x.read(0, 0));
        index("no message: claim", none, x -> x.claim(0));
        check.due("the minute 0, a minute on", new Codewordcable().pass(1), 1);
        check.due("the minute 0, a day on", new Codewordcable().rest(1), 1440);
        check.due("the first idea", new Codewordcable().idea(1), 0);
        check.due("the first office", new Codewordcable().office(), 0);
        check.due("the first conference", new Codewordcable().conference(0, 5, 5, 0), 1);
    }

    private static void noEntry() {
        check.due("no entry: candidates", new Codewordcable().candidates(Scenes.LAST_CODE), 0);
        check.due("no entry: candidate", new Codewordcable().candidate(0, 0), NONE);
        for (int key = 0; key < 40; key += 39) {
            Codewordcable x = Scenes.withBook(0);
            x.key(0, key);
            x.key(1, key);
            x.draft(29);
            check.due("no entry: packed, key " + key, x.words(0, true), 2);
            x.send(0, 1, Codewordcable.URGENT, true);
            check.due("no entry: a plain word", x.word(0, 0, true), -31);
            check.due("no entry: it is read", x.read(0, 0), 29);
        }
        check.due("the first entry", Scenes.withBook(0).entry(0, 0, NONE, NONE, NONE), 0);
    }

    private static void noCable() {
        Check.Scene two = () -> {
            Codewordcable x = new Codewordcable();
            Check.offices(x, 2);
            Check.ideas(x, 20);
            x.draft(0);
            return x;
        };
        state("no cable: send", two, x -> x.send(0, 1, 1, true));
        check.due("no cable: a minute goes by", two.made().pass(1), 1);
        check.due("the first cable", two.made().cable(1, 0, 1, 1), 0);
    }

    private static void noConference() {
        index("no conference: reserve 0", () -> Scenes.withBook(1), x -> x.reserve(0, 0));
        index("no conference: reserve 1", () -> Scenes.withBook(1), x -> x.reserve(0, 1));
        Codewordcable x = Scenes.withBook(0);
        x.draft(0);
        check.due("no conference: 15 letters", x.words(0, false), 2);
    }

    private static void emptyDraft() {
        Check.Scene empty = () -> Scenes.withBook(40);
        check.due("an empty draft: plain", empty.made().words(0, false), 0);
        check.due("an empty draft: packed", empty.made().words(0, true), 0);
        state("an empty draft: send", empty, x -> x.send(0, 1, 1, true));
        state("an empty draft: send plain", empty, x -> x.send(0, 1, 1, false));
        Codewordcable x = empty.made();
        x.draft(0);
        x.send(0, 1, 1, true);
        check.due("empty when it is sent: words", x.words(0, false), 0);
        check.due("empty when it is sent: the next idea", x.draft(0), 1);
    }

    private static void fullOfIdeas() {
        Codewordcable x = new Codewordcable();
        for (int i = 0; i < 30; i++) {
            check.due("idea " + i, x.idea(20 - i % 20), i);
        }
        state("a 31st idea", Scenes::fullOfIdeas, y -> y.idea(1));
        state("a 31st idea of 20 letters", Scenes::fullOfIdeas, y -> y.idea(20));
        Codewordcable y = Scenes.fullOfIdeas();
        Check.offices(y, 2);
        y.cable(0, 1, 1, 20);
        for (int i = 0; i < 4; i++) {
            y.entry(Scenes.codeOf(i), i == 0 ? 29 : 0, i < 1 ? NONE : i == 1 ? 29 : 0,
                    i < 2 ? NONE : i == 2 ? 29 : 0, i < 3 ? NONE : 29);
        }
        for (int i = 0; i < 4; i++) {
            Check.drafts(y, new int[i]);
            y.draft(29);
            y.send(0, 1, 1, false);
            check.due("the last idea plain, place " + i, y.word(i, i, true), -31);
            check.due("it is read, place " + i, y.read(i, i), 29);
        }
        check.due("the last idea has 10 letters", y.draft(29), 1);
        check.due("the last idea is paid", y.words(0, false), 1);
        y.conference(0, 9, 5, 0);
        check.due("the last idea is paid by 9", y.words(0, false), 2);
    }

    private static void fullOfEntries() {
        Codewordcable x = Scenes.withBook(0);
        for (int i = 0; i < 40; i++) {
            check.due("entry " + i, x.entry(Scenes.codeOf(i), i % 30, i < 30 ? NONE : 0, NONE, NONE), i);
        }
        state("a 41st entry", Scenes::fullOfEntries, y -> y.entry(Check.code("qrstu"), 1, 1, NONE, NONE));
        for (int i = 0; i < 40; i++) {
            check.due("entry " + i + " is found", x.candidate(Scenes.codeOf(i), 0), i);
        }
        for (int i = 0; i < 40; i++) {
            Check.drafts(x, i < 30 ? new int[] {i} : new int[] {i - 30, 0});
            int message = x.send(0, 1, 1, true);
            check.due("entry " + i + " is sent", x.word(message, 0, true), Scenes.codeOf(i));
            check.due("as one word", x.ofMessage(message, 1), 1);
            check.due("entry " + i + " is read", x.read(message, 0), i % 30);
            check.due("and its second idea", x.read(message, 1), i < 30 ? NONE : 0);
        }
    }

    /** A phrase of 1 to 4 ideas: each of the four lengths is found, and none longer. */
    private static void longestPhrase() {
        Codewordcable x = Scenes.withBook(0);
        x.entry(Scenes.codeOf(0), 5, NONE, NONE, NONE);
        x.entry(Scenes.codeOf(1), 5, 6, NONE, NONE);
        x.entry(Scenes.codeOf(2), 5, 6, 7, NONE);
        x.entry(Scenes.codeOf(3), 5, 6, 7, 8);
        for (int length = 1; length <= 4; length++) {
            for (int i = 0; i < length; i++) {
                x.draft(5 + i);
            }
            int message = x.send(0, 1, 1, true);
            check.due("a phrase of " + length + ", words", x.ofMessage(message, 1), 1);
            check.due("a phrase of " + length, x.word(message, 0, true), Scenes.codeOf(length - 1));
            for (int i = 0; i < length; i++) {
                check.due("its idea " + i, x.read(message, i), 5 + i);
            }
            check.due("behind it", x.read(message, length), NONE);
        }
        Check.drafts(x, 5, 6, 7, 8, 9);
        int message = x.send(0, 1, 1, true);
        check.due("five ideas in a row, words", x.ofMessage(message, 1), 2);
        check.due("five ideas in a row, the last", x.word(message, 1, true), -11);
    }

    /** "Over each office once at most": the longest way has 8 offices and 7 cables. */
    private static void fullOfOffices() {
        Codewordcable x = new Codewordcable();
        for (int i = 0; i < 8; i++) {
            check.due("office " + i, x.office(), i);
        }
        state("a ninth office", Scenes::fullOfOffices, y -> y.office());
        x.idea(1);
        for (int i = 0; i < 7; i++) {
            x.cable(i + 1, i, 100, 1);
        }
        x.draft(0);
        x.send(0, 7, Codewordcable.URGENT, false);
        check.due("over 7 cables, its price", x.ofMessage(0, 3), 2800);
        for (int i = 0; i < 7; i++) {
            check.due("at cable", x.ofMessage(0, 4), i);
            check.due("what office " + (i + 1) + " got", x.account(i + 1), 400);
            x.pass(1);
        }
        check.due("at its end", x.ofMessage(0, 0), Codewordcable.DELIVERED);
        check.due("what is owed", x.account(0), -2800);
        check.due("what is owed, anew", x.accountAnew(0), -2800);
    }

    private static void fullOfCables() {
        Codewordcable x = new Codewordcable();
        Check.offices(x, 2);
        x.idea(15);
        for (int i = 0; i < 12; i++) {
            check.due("cable " + i, x.cable(i % 2, 1 - i % 2, 12 - i, 1), i);
        }
        state("a 13th cable", Scenes::fullOfCables, y -> y.cable(0, 1, 100, 20));
        for (int i = 0; i < 12; i++) {
            x.draft(0);
            int message = x.send(0, 1, Codewordcable.DEFERRED, false);
            check.due("the least dear of those left", x.ofMessage(message, 4), 11 - i);
            check.due("it is broken with one message", x.broken(11 - i, true), 1);
        }
        x.draft(0);
        check.due("all 12 are broken",
                Check.outcome(x, y -> y.send(0, 1, 1, false)).equals("IllegalStateException"), true);
        x.pass(60);
        check.due("nothing came", x.ofMessage(11, 0), Codewordcable.UNDERWAY);
        x.broken(11, false);
        x.pass(1);
        check.due("by the last cable one came", x.ofMessage(0, 0), Codewordcable.DELIVERED);
        check.due("and no other one", x.ofMessage(1, 0), Codewordcable.UNDERWAY);
    }

    private static void fullOfConferences() {
        Codewordcable x = Scenes.withBook(0);
        for (int i = 1; i <= 12; i++) {
            check.due("conference " + i, x.conference(0, 20, 5, 0), i);
        }
        state("a 13th conference", Scenes::fullOfConferences, y -> y.conference(0, 5, 5, 0));
        for (int i = 12; i >= 1; i--) {
            check.due("reserve " + i, x.reserve(0, i), i - 1);
        }
        x.draft(0);
        check.due("all 12 reserved: the rules at first", x.words(0, false), 2);
        check.due("at the other office the 12th", x.words(1, false), 1);
        check.due("a reserve of the first alone", x.reserve(1, 1), 12);
    }

    private static void fullDraft() {
        Codewordcable x = Scenes.withBook(1);
        for (int i = 1; i <= 24; i++) {
            check.due("the draft with " + i, x.draft(i == 24 ? 1 : 0), i);
        }
        check.due("24 ideas plain", x.words(0, false), 48);
        check.due("23 code words and a plain one", x.words(0, true), 14);
        state("a 25th idea", Scenes::fullDraft, y -> y.draft(0));
        int message = x.send(0, 1, Codewordcable.ORDINARY, true);
        check.due("24 words", x.ofMessage(message, 1), 24);
        check.due("the last of them", x.word(message, 23, true), -3);
        check.due("the last but one", x.word(message, 22, true), 0);
        check.due("the next draft", x.draft(0), 1);
    }

    /** 24 code words of one idea each, read as phrases of four: 96 ideas. */
    private static void longestMessage() {
        Codewordcable x = Scenes.withBook(1);
        x.entry(Scenes.codeOf(1), 1, 2, 3, 4);
        for (int i = 0; i < 24; i++) {
            x.draft(0);
        }
        x.send(0, 1, Codewordcable.ORDINARY, true);
        x.key(1, 1);
        check.due("its first idea", x.read(0, 0), 1);
        check.due("the last of 96 ideas", x.read(0, 95), 4);
        check.due("behind 96 ideas", x.read(0, 96), NONE);
        x.wrong(0, 23, 4, 25);
        x.wrong(0, 23, 3, 25);
        check.due("a word that is UNCLEAR counts as one", x.read(0, 92), Codewordcable.UNCLEAR);
        check.due("behind it", x.read(0, 93), NONE);
        check.due("the last word's claim", x.claim(0), 118);
        x.wrong(0, 23, 3, 0);
        check.due("the last letter's claim", x.claim(0), 119);
        x.wrong(0, 0, 0, 1);
        check.due("the first letter's claim", x.claim(0), 0);
    }

    private static void fullOfMessages() {
        Codewordcable x = Scenes.withBook(1);
        for (int i = 0; i < 60; i++) {
            x.draft(1);
            check.due("message " + i, x.send(0, 1, Codewordcable.DEFERRED, false), i);
        }
        state("a 61st message", Scenes::fullOfMessages, y -> y.send(0, 1, 2, true));
        check.due("60 are there", x.broken(0, false), 60);
        x.pass(5);
        check.due("10 a minute came", x.broken(0, false), 10);
        check.due("the 50th", x.ofMessage(49, 0), Codewordcable.DELIVERED);
        check.due("the 51st", x.ofMessage(50, 0), Codewordcable.UNDERWAY);
        x.pass(1);
        check.due("the 60th", x.ofMessage(59, 0), Codewordcable.DELIVERED);
        check.due("the account", x.account(0), 0);
        x.draft(0);
        check.due("a 61st when all came",
                Check.outcome(x, y -> y.send(0, 1, 1, true)).equals("IllegalStateException"), true);
        check.due("the draft stays", x.draft(0), 2);
    }

    /** The dearest message: 96 words over 7 cables of rate 100, URGENT. 512 calls leave room for 18 of them. */
    private static void dearestMessage() {
        Codewordcable x = new Codewordcable();
        Check.offices(x, 8);
        x.idea(20);
        for (int i = 0; i < 7; i++) {
            x.cable(i + 1, i, 100, 20);
        }
        x.conference(0, 5, 5, 0);
        for (int i = 0; i < 18; i++) {
            Check.drafts(x, new int[24]);
            x.send(0, 7, Codewordcable.URGENT, false);
        }
        check.due("96 words", x.ofMessage(17, 2), 96);
        check.due("its price", x.ofMessage(17, 3), 268800);
        check.due("18 of them", x.account(0), -18 * 268800);
        check.due("18 of them, anew", x.accountAnew(0), -18 * 268800);
        check.due("a part of 18", x.account(7), 18 * 38400);
        check.due("a part of 18, anew", x.accountAnew(7), 18 * 38400);
    }
}
