/** Objects that several tests begin with: one in the middle of its days, and one for each thing there is most of. */
final class Scenes {
    static final int NONE = Codewordcable.NONE;
    static final int LAST_CODE = 11881375;
    /** The code words of the book of middle(), by entry. */
    static final String[] BOOK = {"abcde", "bacdf", "aeiou", "zzzzz", "xyxyx"};

    /**
     * Two days old, with something of each kind: a book of 5, keys, a broken cable, offices that forbid code,
     * rules of days past and to come, a message halfway with a wrong letter, one DELIVERED, one STOPPED, a draft.
     */
    static Codewordcable middle() {
        return middleWith(0, x -> 0);
    }

    /** The same, with one call more: 1 behind the ideas, 2 the offices, 3 the cables, 4 the rules, 5 the messages. */
    static Codewordcable middleWith(int when, Check.Call more) {
        Codewordcable x = new Codewordcable();
        Check.ideas(x, 20, 16, 15, 5, 1, 10);
        callAt(x, more, when == 1);
        x.entry(Check.code(BOOK[0]), 0, NONE, NONE, NONE);
        x.entry(Check.code(BOOK[1]), 1, NONE, NONE, NONE);
        x.entry(Check.code(BOOK[2]), 0, 1, NONE, NONE);
        x.entry(Check.code(BOOK[3]), 2, 2, 2, NONE);
        x.entry(Check.code(BOOK[4]), 0, 0, 0, 0);
        Check.offices(x, 4);
        callAt(x, more, when == 2);
        x.cable(0, 1, 3, 1);
        x.cable(2, 1, 5, 2);
        x.cable(2, 3, 7, 1);
        x.cable(0, 2, 9, 20);
        callAt(x, more, when == 3);
        x.key(0, 2);
        x.key(1, 7);
        x.key(2, 39);
        x.conference(0, 10, 10, 0);
        x.conference(1, 5, 15, 1);
        x.conference(3, 20, 5, 3);
        x.reserve(1, 1);
        x.reserve(2, 2);
        callAt(x, more, when == 4);
        middleMessages(x);
        callAt(x, more, when == 5);
        x.rest(2);
        x.pass(3);
        Check.drafts(x, 0, 1, 5);
        return x;
    }

    private static void callAt(Codewordcable x, Check.Call more, boolean isTime) {
        if (isTime) {
            more.on(x);
        }
    }

    /** Message 0 is halfway with a word carried, 1 DELIVERED, 2 STOPPED, 3 plain and at its second cable. */
    private static void middleMessages(Codewordcable x) {
        Check.drafts(x, 3, 0, 1, 0, 2, 2, 2);
        x.send(0, 2, Codewordcable.DEFERRED, true);
        x.wrong(0, 1, 3, 25);
        x.draft(4);
        x.send(0, 2, Codewordcable.URGENT, false);
        x.forbid(3, true);
        x.draft(0);
        x.send(3, 0, Codewordcable.ORDINARY, true);
        x.pass(2);
        x.broken(3, true);
        Check.drafts(x, 5, 5, 5);
        x.send(0, 3, Codewordcable.ORDINARY, false);
    }

    /** The same, with as many of each thing as there can be; the first messages are where they were. */
    static Codewordcable crowded() {
        Codewordcable x = middle();
        for (int i = 6; i < 30; i++) {
            x.idea(20);
        }
        for (int i = 0; i < 35; i++) {
            x.entry(codeOf(i), i < 24 ? 6 + i : 6, i < 24 ? NONE : i - 24, NONE, NONE);
        }
        Check.offices(x, 4);
        for (int i = 0; i < 8; i++) {
            x.cable(4 + i % 4, 4 + (i + 1) % 4, 10, 1);
        }
        for (int i = 0; i < 9; i++) {
            x.conference(i % 5, 9, 10, 1);
        }
        x.send(0, 1, Codewordcable.ORDINARY, true);
        for (int i = 5; i < 60; i++) {
            x.draft(i % 30);
            x.send(4 + i % 4, 4 + (i + 1) % 4, i % 3, true);
        }
        for (int i = 0; i < 24; i++) {
            x.draft(i);
        }
        return x;
    }

    /** middle(), 20 minutes before the last one; nothing has been carried since. */
    static Codewordcable late() {
        Codewordcable x = middle();
        for (int cable = 0; cable < 4; cable++) {
            x.broken(cable, true);
        }
        for (int i = 0; i < 6; i++) {
            x.rest(100);
        }
        x.rest(92);
        for (int i = 0; i < 10; i++) {
            x.pass(60);
        }
        x.pass(15);
        for (int cable = 0; cable < 3; cable++) {
            x.broken(cable, false);
        }
        return x;
    }

    static Codewordcable fullOfIdeas() {
        Codewordcable x = new Codewordcable();
        for (int i = 0; i < 30; i++) {
            x.idea(i % 20 + 1);
        }
        return x;
    }

    /** A code word for each number from 0 to 39: any two of them part in three letters at least. */
    static int codeOf(int entry) {
        int high = entry / 26;
        int low = entry % 26;
        return (((low * 26 + low) * 26 + low) * 26 + high) * 26 + high;
    }

    /** 30 ideas of 20 letters, two offices, a cable, and entries of one idea each, then of two. */
    static Codewordcable withBook(int entries) {
        Codewordcable x = new Codewordcable();
        for (int i = 0; i < 30; i++) {
            x.idea(20);
        }
        for (int i = 0; i < entries; i++) {
            x.entry(codeOf(i), i % 30, i < 30 ? NONE : 0, NONE, NONE);
        }
        Check.offices(x, 2);
        x.cable(0, 1, 1, 20);
        return x;
    }

    static Codewordcable fullOfEntries() {
        return withBook(40);
    }

    static Codewordcable fullOfOffices() {
        Codewordcable x = new Codewordcable();
        x.idea(20);
        Check.offices(x, 8);
        return x;
    }

    static Codewordcable fullOfCables() {
        Codewordcable x = new Codewordcable();
        x.idea(20);
        Check.offices(x, 3);
        for (int i = 0; i < 12; i++) {
            x.cable(i % 2, 1 - i % 2, 12 - i, 20);
        }
        return x;
    }

    static Codewordcable fullOfConferences() {
        Codewordcable x = withBook(1);
        for (int i = 0; i < 12; i++) {
            x.conference(0, 5 + i, 5, 0);
        }
        return x;
    }

    static Codewordcable fullDraft() {
        Codewordcable x = withBook(1);
        for (int i = 0; i < 24; i++) {
            x.draft(i % 2);
        }
        return x;
    }

    /** 60 messages of a plain word each, all UNDERWAY, and a draft. */
    static Codewordcable fullOfMessages() {
        Codewordcable x = withBook(1);
        for (int i = 0; i < 60; i++) {
            x.draft(1);
            x.send(0, 1, Codewordcable.DEFERRED, false);
        }
        x.draft(0);
        return x;
    }

    /** An object at a minute from 864000 on, with a message UNDERWAY. */
    static Codewordcable atMinute(int minute) {
        Codewordcable x = withBook(1);
        x.draft(1);
        x.send(0, 1, Codewordcable.DEFERRED, false);
        passTo(x, 0, minute);
        return x;
    }

    /** Rests and passes on; nothing is carried of what is behind a cable that is broken till then. */
    static void passTo(Codewordcable x, int now, int minute) {
        x.broken(0, true);
        int left = minute - now;
        while (left >= 1440) {
            int days = Math.min(100, left / 1440);
            x.rest(days);
            left -= days * 1440;
        }
        while (left > 0) {
            int minutes = Math.min(60, left);
            x.pass(minutes);
            left -= minutes;
        }
        x.broken(0, false);
    }
}
