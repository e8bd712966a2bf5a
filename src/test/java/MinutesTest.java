/** Promises 17 and 18, and what promises 8, 9 and 19 say of messages that go: minutes, queues, stops. */
public final class MinutesTest {
    private static final int NONE = Codewordcable.NONE;
    private static final Check check = new Check();

    public static void main(String[] args) {
        minutes();
        restedDays();
        lastMinute();
        slowCable();
        nextCableNextMinute();
        classes();
        roomLeftOver();
        carriedStays();
        brokenHalfway();
        stoppedOnTheWay();
        stoppedAtTheLast();
        check.end();
    }

    /** Offices in a line, with a cable of so many words a minute between each two. */
    private static Codewordcable line(int... speeds) {
        Codewordcable x = new Codewordcable();
        Check.offices(x, speeds.length + 1);
        for (int i = 0; i < speeds.length; i++) {
            x.cable(i, i + 1, 1, speeds[i]);
        }
        Check.ideas(x, 15, 20);
        x.entry(Check.code("abcde"), 1, NONE, NONE, NONE);
        return x;
    }

    /** Sends so many plain words, each paid as one. */
    private static int plain(Codewordcable x, int to, int kind, int words) {
        for (int i = 0; i < words; i++) {
            x.draft(0);
        }
        return x.send(0, to, kind, false);
    }

    private static int coded(Codewordcable x, int from, int to) {
        x.draft(1);
        return x.send(from, to, Codewordcable.ORDINARY, true);
    }

    private static Codewordcable late(int less) {
        Codewordcable x = line(1);
        for (int i = 0; i < 6; i++) {
            x.rest(100);
        }
        x.rest(94);
        for (int i = 0; i < 10; i++) {
            x.pass(60);
        }
        x.pass(40 - less);
        plain(x, 1, 0, 2);
        return x;
    }

    private static void minutes() {
        Codewordcable x = line(1);
        check.due("a minute", x.pass(1), 1);
        check.due("60 minutes", x.pass(60), 61);
        check.refused("pass(0)", Check.ARGUMENT, () -> late(9), y -> y.pass(0));
        check.refused("pass(-1)", Check.ARGUMENT, () -> late(9), y -> y.pass(-1));
        check.refused("pass(61)", Check.ARGUMENT, () -> late(9), y -> y.pass(61));
    }

    private static void restedDays() {
        Codewordcable x = line(1);
        int message = plain(x, 1, Codewordcable.URGENT, 1);
        check.due("a day", x.rest(1), 1440);
        check.due("100 days", x.rest(100), 145440);
        check.due("nothing is carried", x.ofMessage(message, 0), Codewordcable.UNDERWAY);
        check.due("a minute more", x.pass(1), 145441);
        check.due("it is carried", x.ofMessage(message, 0), Codewordcable.DELIVERED);
        check.refused("rest(0)", Check.ARGUMENT, () -> late(9), y -> y.rest(0));
        check.refused("rest(-1)", Check.ARGUMENT, () -> late(9), y -> y.rest(-1));
        check.refused("rest(101)", Check.ARGUMENT, () -> late(9), y -> y.rest(101));
    }

    private static void lastMinute() {
        check.due("up to the last minute", late(9).pass(9), 1000000);
        check.refused("one above it", Check.STATE, () -> late(9), y -> y.pass(10));
        check.refused("at it", Check.STATE, () -> late(0), y -> y.pass(1));
        check.refused("at it, 61", Check.ARGUMENT, () -> late(0), y -> y.pass(61));
        check.refused("a day above it", Check.STATE, () -> late(9), y -> y.rest(1));
        check.refused("at it, 101 days", Check.ARGUMENT, () -> late(0), y -> y.rest(101));
        Codewordcable x = line(1);
        for (int i = 0; i < 6; i++) {
            x.rest(100);
        }
        x.rest(93);
        for (int i = 0; i < 10; i++) {
            x.pass(60);
        }
        x.pass(40);
        check.due("a day up to it", x.rest(1), 1000000);
    }

    private static void slowCable() {
        Codewordcable x = line(3);
        int message = plain(x, 1, Codewordcable.DEFERRED, 7);
        x.pass(2);
        check.due("six of seven words", x.ofMessage(message, 0), Codewordcable.UNDERWAY);
        x.pass(1);
        check.due("seven of seven", x.ofMessage(message, 0), Codewordcable.DELIVERED);
        int next = plain(x, 1, Codewordcable.DEFERRED, 6);
        x.pass(2);
        check.due("six of six", x.ofMessage(next, 0), Codewordcable.DELIVERED);
    }

    private static void nextCableNextMinute() {
        Codewordcable x = line(20, 20, 20);
        int message = plain(x, 3, Codewordcable.URGENT, 1);
        int shorter = plain(x, 2, Codewordcable.URGENT, 1);
        for (int cable = 0; cable < 3; cable++) {
            check.due("minute " + cable, x.ofMessage(message, 4), cable);
            check.due("how many at it", x.broken(cable, false), cable == 2 ? 1 : 2);
            x.pass(1);
        }
        check.due("DELIVERED", x.ofMessage(message, 0), Codewordcable.DELIVERED);
        check.due("the shorter one too", x.ofMessage(shorter, 0), Codewordcable.DELIVERED);
    }

    private static void classes() {
        Codewordcable x = line(1);
        int[] kinds = {0, 1, 2, 0, 1, 2};
        int[] order = {2, 5, 1, 4, 0, 3};
        for (int kind : kinds) {
            plain(x, 1, kind, 2);
        }
        for (int i = 0; i < order.length; i++) {
            x.pass(1);
            check.due("half of message " + order[i], x.ofMessage(order[i], 0), Codewordcable.UNDERWAY);
            check.due("how many are there", x.broken(0, false), 6 - i);
            x.pass(1);
            check.due("message " + order[i], x.ofMessage(order[i], 0), Codewordcable.DELIVERED);
        }
    }

    /** What the first one leaves of a minute goes to the next one, also of another class. */
    private static void roomLeftOver() {
        Codewordcable x = line(5);
        int deferred = plain(x, 1, Codewordcable.DEFERRED, 4);
        int urgent = plain(x, 1, Codewordcable.URGENT, 3);
        int ordinary = plain(x, 1, Codewordcable.ORDINARY, 1);
        x.pass(1);
        check.due("urgent", x.ofMessage(urgent, 0), Codewordcable.DELIVERED);
        check.due("ordinary", x.ofMessage(ordinary, 0), Codewordcable.DELIVERED);
        int late = plain(x, 1, Codewordcable.URGENT, 2);
        x.pass(1);
        check.due("one and three of the deferred", x.ofMessage(deferred, 0), Codewordcable.DELIVERED);
        check.due("beside two of another", x.ofMessage(late, 0), Codewordcable.DELIVERED);
    }

    /** A message is not at the next cable in the minute in which it is through, and begins there anew. */
    private static void carriedStays() {
        Codewordcable x = line(2, 1);
        int first = plain(x, 2, Codewordcable.ORDINARY, 3);
        int urgent = plain(x, 2, Codewordcable.URGENT, 1);
        x.pass(1);
        check.due("the urgent one is on", x.ofMessage(urgent, 4), 1);
        check.due("the first one has one word of three", x.ofMessage(first, 4), 0);
        x.pass(1);
        check.due("the urgent one is there", x.ofMessage(urgent, 0), Codewordcable.DELIVERED);
        check.due("the first one is through", x.ofMessage(first, 4), 1);
        x.pass(2);
        check.due("two of three words", x.ofMessage(first, 0), Codewordcable.UNDERWAY);
        x.pass(1);
        check.due("three of three words", x.ofMessage(first, 0), Codewordcable.DELIVERED);
    }

    private static void brokenHalfway() {
        Codewordcable x = line(1, 1);
        int message = plain(x, 2, Codewordcable.ORDINARY, 3);
        x.pass(2);
        check.due("broken with one there", x.broken(0, true), 1);
        x.pass(60);
        check.due("nothing is carried", x.ofMessage(message, 4), 0);
        x.broken(0, false);
        x.pass(1);
        check.due("the third word was the last", x.ofMessage(message, 4), 1);
        check.due("none at the first", x.broken(0, false), 0);
        check.due("one at the second", x.broken(1, false), 1);
    }

    private static void stoppedOnTheWay() {
        Codewordcable x = line(1, 1);
        int message = coded(x, 0, 2);
        int other = coded(x, 2, 0);
        x.draft(0);
        int open = x.send(0, 2, Codewordcable.ORDINARY, false);
        x.forbid(1, true);
        check.due("not yet", x.ofMessage(message, 0), Codewordcable.UNDERWAY);
        x.pass(1);
        check.due("STOPPED", x.ofMessage(message, 0), Codewordcable.STOPPED);
        check.due("where", x.ofMessage(message, 5), 1);
        check.due("at no cable", x.ofMessage(message, 4), NONE);
        check.due("from the other side", x.ofMessage(other, 5), 1);
        x.pass(1);
        check.due("a plain one goes on", x.ofMessage(open, 4), 1);
        x.forbid(1, false);
        x.pass(5);
        check.due("STOPPED it stays", x.ofMessage(message, 0), Codewordcable.STOPPED);
        check.due("a plain one comes", x.ofMessage(open, 0), Codewordcable.DELIVERED);
    }

    private static void stoppedAtTheLast() {
        Codewordcable x = line(1, 1);
        x.forbid(2, true);
        int message = coded(x, 0, 2);
        x.pass(1);
        check.due("it has come to the second office", x.ofMessage(message, 4), 1);
        x.forbid(1, true);
        check.due("it has come there before", x.ofMessage(message, 0), Codewordcable.UNDERWAY);
        x.pass(1);
        check.due("STOPPED at the last", x.ofMessage(message, 0), Codewordcable.STOPPED);
        check.due("where", x.ofMessage(message, 5), 2);
        Codewordcable y = line(1);
        y.forbid(1, true);
        y.draft(0);
        y.send(0, 1, Codewordcable.ORDINARY, true);
        y.pass(1);
        check.due("packed, without a code word", y.ofMessage(0, 0), Codewordcable.DELIVERED);
    }
}
