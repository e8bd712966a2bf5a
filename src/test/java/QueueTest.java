/** The edges of minutes, cables and stops: words that just fit, minutes that begin, offices that are come to. */
public final class QueueTest {
    private static final int NONE = Codewordcable.NONE;
    private static final int DEFERRED = Codewordcable.DEFERRED;
    private static final int ORDINARY = Codewordcable.ORDINARY;
    private static final int URGENT = Codewordcable.URGENT;
    private static final int UNDERWAY = Codewordcable.UNDERWAY;
    private static final int DELIVERED = Codewordcable.DELIVERED;
    private static final int STOPPED = Codewordcable.STOPPED;
    private static final Check check = new Check();

    public static void main(String[] args) {
        wordsThatFit();
        nothingLeftForTheNext();
        oneLeftForTheNext();
        classesThenNumbers();
        urgentGoesAhead();
        bothDirections();
        minuteBegins();
        brokenForAWhile();
        manyMinutesAreEach();
        nothingCarriedInRest();
        stoppedWhereItComes();
        forbiddenForAWhile();
        plainIsNotStopped();
        wrongWordsAreCode();
        wrongWhileUnderway();
        lastMinute();
        afterTheLastMinute();
        check.end();
    }

    /** Offices in a line; the cable between i and i + 1 is told at the number that the order gives it. */
    private static Codewordcable line(int words, int... order) {
        Codewordcable x = new Codewordcable();
        Check.offices(x, order.length + 1);
        for (int cable = 0; cable < order.length; cable++) {
            for (int i = 0; i < order.length; i++) {
                if (order[i] == cable) {
                    x.cable(i, i + 1, 1, words);
                }
            }
        }
        Check.ideas(x, 15, 20);
        x.entry(Check.code("abcde"), 1, NONE, NONE, NONE);
        return x;
    }

    private static int plain(Codewordcable x, int from, int to, int kind, int words) {
        Check.drafts(x, new int[words]);
        return x.send(from, to, kind, false);
    }

    private static int coded(Codewordcable x, int from, int to) {
        x.draft(1);
        return x.send(from, to, ORDINARY, true);
    }

    /** 1 to 24 words by 1 to 20 a minute: in the last minute but one it is UNDERWAY, in the last one DELIVERED. */
    private static void wordsThatFit() {
        for (int speed = 1; speed <= 20; speed++) {
            for (int words = 1; words <= 24; words++) {
                Codewordcable x = line(speed, 0);
                plain(x, 0, 1, DEFERRED, words);
                int minutes = 1;
                while (minutes * speed < words) {
                    x.pass(1);
                    check.due(words + " words by " + speed + ", minute " + minutes, x.ofMessage(0, 0), UNDERWAY);
                    minutes++;
                }
                x.pass(1);
                check.due(words + " words by " + speed + ", the last minute", x.ofMessage(0, 0), DELIVERED);
            }
        }
    }

    private static void nothingLeftForTheNext() {
        Codewordcable x = line(4, 0);
        int later = plain(x, 0, 1, ORDINARY, 1);
        int first = plain(x, 0, 1, URGENT, 4);
        x.pass(1);
        check.due("four of four", x.ofMessage(first, 0), DELIVERED);
        check.due("none is left", x.ofMessage(later, 0), UNDERWAY);
        x.pass(1);
        check.due("a minute later", x.ofMessage(later, 0), DELIVERED);
    }

    private static void oneLeftForTheNext() {
        Codewordcable x = line(5, 0);
        int next = plain(x, 0, 1, ORDINARY, 1);
        int last = plain(x, 0, 1, ORDINARY, 5);
        int first = plain(x, 0, 1, URGENT, 4);
        x.pass(1);
        check.due("four of five", x.ofMessage(first, 0), DELIVERED);
        check.due("one is left", x.ofMessage(next, 0), DELIVERED);
        check.due("none is left", x.ofMessage(last, 0), UNDERWAY);
        x.pass(1);
        check.due("five of five", x.ofMessage(last, 0), DELIVERED);
    }

    private static void classesThenNumbers() {
        int[] kinds = {ORDINARY, DEFERRED, URGENT, DEFERRED, URGENT, ORDINARY};
        int[] order = {2, 4, 0, 5, 1, 3};
        Codewordcable x = line(1, 0);
        for (int kind : kinds) {
            plain(x, 0, 1, kind, 1);
        }
        for (int message : order) {
            check.due("before its minute", x.ofMessage(message, 0), UNDERWAY);
            x.pass(1);
            check.due("in its minute", x.ofMessage(message, 0), DELIVERED);
        }
    }

    /** What was carried of a message counts on when an URGENT one went ahead. */
    private static void urgentGoesAhead() {
        Codewordcable x = line(1, 0);
        int slow = plain(x, 0, 1, DEFERRED, 3);
        x.pass(2);
        int quick = plain(x, 0, 1, URGENT, 2);
        x.pass(2);
        check.due("the URGENT one", x.ofMessage(quick, 0), DELIVERED);
        check.due("two of three words", x.ofMessage(slow, 0), UNDERWAY);
        x.pass(1);
        check.due("three of three words", x.ofMessage(slow, 0), DELIVERED);
    }

    private static void bothDirections() {
        Codewordcable x = line(3, 0);
        int there = plain(x, 0, 1, ORDINARY, 2);
        int back = plain(x, 1, 0, ORDINARY, 2);
        check.due("both are there", x.broken(0, false), 2);
        x.pass(1);
        check.due("the lower number", x.ofMessage(there, 0), DELIVERED);
        check.due("one of its two words", x.ofMessage(back, 0), UNDERWAY);
        x.pass(1);
        check.due("both of its words", x.ofMessage(back, 0), DELIVERED);
        back = plain(x, 1, 0, ORDINARY, 2);
        there = plain(x, 0, 1, ORDINARY, 2);
        x.pass(1);
        check.due("the lower number, back", x.ofMessage(back, 0), DELIVERED);
        check.due("one of the other's two words", x.ofMessage(there, 0), UNDERWAY);
        x.pass(1);
        check.due("both of the other's words", x.ofMessage(there, 0), DELIVERED);
    }

    /** "of the messages that are there as the minute begins": whichever cable has the lower number. */
    private static void minuteBegins() {
        int[][] orders = {{0, 1, 2}, {2, 1, 0}, {1, 0, 2}, {2, 0, 1}};
        for (int[] order : orders) {
            Codewordcable x = line(20, order);
            plain(x, 0, 3, URGENT, 1);
            plain(x, 3, 0, DEFERRED, 1);
            for (int i = 0; i < 3; i++) {
                check.due("its cable in minute " + i, x.ofMessage(0, 4), order[i]);
                check.due("the other one's cable in minute " + i, x.ofMessage(1, 4), order[2 - i]);
                check.due("how many are there", x.broken(order[i], false), i == 1 ? 2 : 1);
                x.pass(1);
            }
            check.due("through the last cable", x.ofMessage(0, 0), DELIVERED);
            check.due("the other one too", x.ofMessage(1, 0), DELIVERED);
            check.due("at none", x.ofMessage(0, 4), NONE);
        }
    }

    private static void brokenForAWhile() {
        Codewordcable x = line(1, 0, 1);
        int first = plain(x, 0, 1, ORDINARY, 2);
        int other = plain(x, 1, 2, ORDINARY, 2);
        x.pass(1);
        check.due("broken with one", x.broken(0, true), 1);
        check.due("broken again with one", x.broken(0, true), 1);
        x.pass(1);
        check.due("nothing is carried on it", x.ofMessage(first, 0), UNDERWAY);
        check.due("the other cable carries", x.ofMessage(other, 0), DELIVERED);
        check.due("mended with one", x.broken(0, false), 1);
        check.due("mended again with one", x.broken(0, false), 1);
        x.pass(1);
        check.due("the second of two words", x.ofMessage(first, 0), DELIVERED);
        check.due("none is there", x.broken(0, true), 0);
        Codewordcable y = line(1, 0, 1);
        int message = plain(y, 0, 2, ORDINARY, 2);
        check.due("none at the second one", y.broken(1, true), 0);
        y.pass(2);
        check.due("it comes to a cable that is broken", y.ofMessage(message, 4), 1);
        check.due("one is there", y.broken(1, true), 1);
        y.pass(3);
        check.due("and waits there", y.ofMessage(message, 4), 1);
        check.due("mended, with one there", y.broken(1, false), 1);
        y.pass(1);
        check.due("one of its two words", y.ofMessage(message, 0), UNDERWAY);
        y.pass(1);
        check.due("and comes", y.ofMessage(message, 0), DELIVERED);
    }

    /** So many minutes at once are as so many one by one: three messages of 19 words over three cables of one word. */
    private static void manyMinutesAreEach() {
        for (int minutes = 58; minutes <= 60; minutes++) {
            Codewordcable x = line(1, 0, 1, 2);
            for (int i = 0; i < 3; i++) {
                plain(x, 0, 3, DEFERRED, 19);
            }
            x.pass(minutes);
            check.due("57 words carried in " + minutes, x.broken(0, false), 0);
            Codewordcable y = line(1, 0, 1, 2);
            for (int i = 0; i < 3; i++) {
                plain(y, 0, 3, DEFERRED, 19);
            }
            for (int i = 0; i < minutes; i++) {
                check.due("minute by minute", y.pass(1), i + 1);
            }
            for (int i = 0; i < 3; i++) {
                check.due("the cable of " + i + " after " + minutes, x.ofMessage(i, 4), y.ofMessage(i, 4));
                check.due("its state", x.ofMessage(i, 0), y.ofMessage(i, 0));
            }
            check.due("the first one just came, or did not", x.ofMessage(0, 0), minutes >= 57 ? DELIVERED : UNDERWAY);
        }
        Codewordcable z = line(1, 0, 1, 2);
        plain(z, 0, 3, DEFERRED, 19);
        z.pass(56);
        check.due("the first one's last minute but one", z.ofMessage(0, 0), UNDERWAY);
    }

    private static void nothingCarriedInRest() {
        Codewordcable x = line(1, 0);
        plain(x, 0, 1, URGENT, 2);
        x.pass(1);
        x.rest(100);
        check.due("one of two words", x.ofMessage(0, 0), UNDERWAY);
        check.due("its cable", x.ofMessage(0, 4), 0);
        x.pass(1);
        check.due("two of two words", x.ofMessage(0, 0), DELIVERED);
    }

    /** "STOPPED where it comes to an office that forbids code, also the last one, and at once if the first one does". */
    private static void stoppedWhereItComes() {
        for (int office = 0; office < 4; office++) {
            Codewordcable x = line(20, 0, 1, 2);
            x.forbid(office, true);
            int message = coded(x, 0, 3);
            for (int minute = 0; minute < office; minute++) {
                check.due("not yet at office " + office, x.ofMessage(message, 0), UNDERWAY);
                check.due("STOPPED nowhere", x.ofMessage(message, 5), NONE);
                check.due("its cable", x.ofMessage(message, 4), minute);
                x.pass(1);
            }
            check.due("STOPPED at office " + office, x.ofMessage(message, 0), STOPPED);
            check.due("where", x.ofMessage(message, 5), office);
            check.due("at no cable", x.ofMessage(message, 4), NONE);
            check.due("none is there", x.broken(Math.min(office, 2), false), 0);
            check.due("its price is owed", x.account(0), -2 * 3 + 2);
            check.due("its price is owed, anew", x.accountAnew(0), -2 * 3 + 2);
            x.forbid(office, false);
            x.pass(9);
            check.due("STOPPED for good", x.ofMessage(message, 5), office);
        }
    }

    /** Only what is forbidden as it comes counts. */
    private static void forbiddenForAWhile() {
        Codewordcable x = line(20, 0, 1, 2);
        x.forbid(1, true);
        int message = coded(x, 0, 3);
        x.forbid(1, false);
        x.pass(1);
        check.due("allowed before it came", x.ofMessage(message, 4), 1);
        x.forbid(1, true);
        x.pass(1);
        check.due("forbidden where it was", x.ofMessage(message, 4), 2);
        x.forbid(3, true);
        x.forbid(3, true);
        x.forbid(0, true);
        x.pass(1);
        check.due("forbidden before it came", x.ofMessage(message, 5), 3);
    }

    private static void plainIsNotStopped() {
        Codewordcable x = line(20, 0, 1);
        for (int office = 0; office < 3; office++) {
            x.forbid(office, true);
        }
        plain(x, 0, 2, ORDINARY, 3);
        x.draft(1);
        x.send(0, 2, ORDINARY, false);
        x.draft(0);
        x.send(0, 2, ORDINARY, true);
        x.pass(2);
        for (int message = 0; message < 3; message++) {
            check.due("a message of plain words " + message, x.ofMessage(message, 0), DELIVERED);
        }
        Check.drafts(x, 0, 1);
        x.conference(0, 5, 15, 0);
        check.due("one code word in it", x.send(0, 2, ORDINARY, true), 3);
        check.due("is enough", x.ofMessage(3, 0), STOPPED);
    }

    /** A code word that went wrong is one still, whether the book has it or not. */
    private static void wrongWordsAreCode() {
        for (int letters = 1; letters <= 5; letters++) {
            Codewordcable x = line(20, 0, 1);
            x.forbid(1, true);
            coded(x, 0, 2);
            for (int letter = 0; letter < letters; letter++) {
                x.wrong(0, 0, letter, 25);
            }
            x.pass(1);
            check.due(letters + " letters wrong: STOPPED", x.ofMessage(0, 5), 1);
        }
    }

    /** "While a message is UNDERWAY a letter of a code word in it can go wrong": to its last minute. */
    private static void wrongWhileUnderway() {
        Check.Scene before = () -> {
            Codewordcable x = line(1, 0, 1);
            coded(x, 0, 2);
            x.pass(1);
            return x;
        };
        Check.Scene after = () -> {
            Codewordcable x = before.made();
            x.pass(1);
            return x;
        };
        Check.Scene stopped = () -> {
            Codewordcable x = before.made();
            x.forbid(2, true);
            x.pass(1);
            return x;
        };
        Check.Scene atOnce = () -> {
            Codewordcable x = line(1, 0, 1);
            x.forbid(0, true);
            coded(x, 0, 2);
            return x;
        };
        check.due("in the last minute", before.made().wrong(0, 0, 4, 0), Check.code("abcda"));
        check.refused("when it is DELIVERED", Check.STATE, after, x -> x.wrong(0, 0, 4, 0));
        check.refused("when it is STOPPED", Check.STATE, stopped, x -> x.wrong(0, 0, 4, 0));
        check.refused("when it is STOPPED at once", Check.STATE, atOnce, x -> x.wrong(0, 0, 4, 0));
    }

    /** "if it would be above 1000000": each of the last minutes and days, on both sides. */
    private static void lastMinute() {
        int[] steps = {1, 2, 59, 60};
        for (int minutes : steps) {
            Check.Scene fits = () -> Scenes.atMinute(1000000 - minutes);
            Check.Scene late = () -> Scenes.atMinute(1000001 - minutes);
            check.due("just " + minutes + " minutes", fits.made().pass(minutes), 1000000);
            check.refused("a minute late for " + minutes, Check.STATE, late, x -> x.pass(minutes));
        }
        int[] days = {1, 2, 99, 100};
        for (int many : days) {
            Check.Scene fits = () -> Scenes.atMinute(1000000 - many * 1440);
            Check.Scene late = () -> Scenes.atMinute(1000001 - many * 1440);
            check.due("just " + many + " days", fits.made().rest(many), 1000000);
            check.refused("a minute late for " + many + " days", Check.STATE, late, x -> x.rest(many));
        }
        check.refused("at the last minute: pass", Check.STATE, () -> Scenes.atMinute(1000000), x -> x.pass(1));
        check.refused("at the last minute: rest", Check.STATE, () -> Scenes.atMinute(1000000), x -> x.rest(1));
    }

    /** At the minute 1000000 all but the minutes goes on. */
    private static void afterTheLastMinute() {
        Codewordcable x = Scenes.atMinute(1000000);
        check.due("the message is UNDERWAY", x.ofMessage(0, 0), UNDERWAY);
        check.due("one is there", x.broken(0, false), 1);
        check.due("a conference of day 694", x.conference(694, 20, 5, 0), 1);
        check.due("a conference of day 695", x.conference(695, 5, 5, 0), 2);
        x.draft(2);
        check.due("that of day 694 counts", x.words(0, false), 1);
        check.due("a message", x.send(1, 0, URGENT, false), 1);
        check.due("its price", x.ofMessage(1, 3), 4);
        check.due("two are there", x.broken(0, false), 2);
        check.due("it is read", x.read(1, 0), 2);
    }
}
