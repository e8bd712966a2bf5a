/** Promises 15 and 19: routes, prices, classes, what is stopped at once, and the numbers of a message. */
public final class SendTest {
    private static final int NONE = Codewordcable.NONE;
    private static final Check check = new Check();

    public static void main(String[] args) {
        numbers();
        prices();
        leastRates();
        fewestCables();
        lowestCables();
        lowestLastCable();
        brokenCables();
        routesStay();
        stoppedAtOnce();
        refused();
        askedOfNone();
        check.end();
    }

    private static Codewordcable offices(int many) {
        Codewordcable x = new Codewordcable();
        Check.offices(x, many);
        Check.ideas(x, 20, 7);
        x.entry(Check.code("abcde"), 0, NONE, NONE, NONE);
        return x;
    }

    private static Codewordcable drafted() {
        Codewordcable x = offices(3);
        x.cable(0, 1, 3, 1);
        x.draft(0);
        return x;
    }

    private static Codewordcable sixty() {
        Codewordcable x = offices(2);
        x.cable(0, 1, 100, 20);
        for (int i = 0; i < 60; i++) {
            x.draft(1);
            x.send(0, 1, Codewordcable.DEFERRED, false);
        }
        x.draft(0);
        return x;
    }

    /** Sends one plain word of 1 and follows it to its end: the cables are told as digits of 36. */
    private static String routeOf(Codewordcable x, int from, int to) {
        x.draft(1);
        int message = x.send(from, to, Codewordcable.URGENT, false);
        StringBuilder all = new StringBuilder();
        for (int i = 0; i < 9 && x.ofMessage(message, 0) == Codewordcable.UNDERWAY; i++) {
            all.append(Integer.toString(x.ofMessage(message, 4), 36));
            x.pass(1);
        }
        return all.toString();
    }

    private static void route(String what, Codewordcable x, int from, int to, String want) {
        String got = routeOf(x, from, to);
        if (!got.equals(want)) {
            System.out.println(what + " took " + got + ", due is " + want);
        }
        check.due(what, got.equals(want), true);
    }

    private static void numbers() {
        Codewordcable x = sixty();
        check.due("the last message", x.ofMessage(59, 3), 100);
        x = drafted();
        x.draft(1);
        check.due("the first one's number", x.send(0, 1, Codewordcable.ORDINARY, true), 0);
        check.due("UNDERWAY", x.ofMessage(0, 0), Codewordcable.UNDERWAY);
        check.due("its words", x.ofMessage(0, 1), 2);
        check.due("words to be paid", x.ofMessage(0, 2), 2);
        check.due("its price", x.ofMessage(0, 3), 12);
        check.due("its cable", x.ofMessage(0, 4), 0);
        check.due("not STOPPED", x.ofMessage(0, 5), NONE);
        x.pass(2);
        check.due("DELIVERED", x.ofMessage(0, 0), Codewordcable.DELIVERED);
        check.due("at no cable", x.ofMessage(0, 4), NONE);
        check.due("nor STOPPED", x.ofMessage(0, 5), NONE);
        check.due("its price stays", x.ofMessage(0, 3), 12);
        x.draft(1);
        check.due("the second one's number", x.send(1, 0, Codewordcable.ORDINARY, true), 1);
    }

    private static void prices() {
        int[] times = {1, 2, 4};
        for (int kind = Codewordcable.DEFERRED; kind <= Codewordcable.URGENT; kind++) {
            Codewordcable x = offices(3);
            x.cable(0, 1, 3, 1);
            x.cable(2, 1, 50, 1);
            Check.drafts(x, 0, 0, 1);
            x.send(0, 2, kind, false);
            check.due("5 words by 53 of class " + kind, x.ofMessage(0, 3), 53 * 5 * times[kind]);
            Check.drafts(x, 0, 0, 1);
            x.send(2, 0, kind, true);
            check.due("2 words by 53 of class " + kind, x.ofMessage(1, 3), 53 * 2 * times[kind]);
        }
    }

    private static void leastRates() {
        Codewordcable x = offices(4);
        x.cable(0, 3, 10, 20);
        x.cable(0, 1, 3, 20);
        x.cable(2, 1, 3, 20);
        x.cable(2, 3, 3, 20);
        route("three of 9 ahead of one of 10", x, 0, 3, "123");
        route("the other way", x, 3, 0, "321");
        x.cable(3, 0, 9, 20);
        route("one of 9 ahead of three of 9", x, 0, 3, "4");
        x.cable(0, 3, 8, 20);
        route("one of 8", x, 0, 3, "5");
        Codewordcable y = offices(8);
        for (int i = 0; i < 7; i++) {
            y.cable(i, i + 1, 1, 20);
        }
        y.cable(0, 7, 8, 20);
        route("seven of 7 ahead of one of 8", y, 0, 7, "0123456");
        y.cable(0, 7, 7, 20);
        route("one of 7 ahead of seven", y, 0, 7, "8");
        Codewordcable z = offices(8);
        z.cable(0, 7, 8, 20);
        for (int i = 0; i < 7; i++) {
            z.cable(i, i + 1, 1, 20);
        }
        route("seven of 7 ahead of a lower one of 8", z, 0, 7, "1234567");
    }

    private static void fewestCables() {
        Codewordcable x = offices(5);
        x.cable(0, 1, 2, 20);
        x.cable(1, 2, 2, 20);
        x.cable(2, 4, 2, 20);
        x.cable(0, 3, 3, 20);
        x.cable(3, 4, 3, 20);
        route("two cables ahead of three", x, 0, 4, "34");
        x.broken(4, true);
        route("three when the two are broken", x, 0, 4, "012");
    }

    private static void lowestCables() {
        Codewordcable x = offices(4);
        x.cable(2, 3, 2, 20);
        x.cable(0, 1, 1, 20);
        x.cable(0, 2, 1, 20);
        x.cable(1, 3, 2, 20);
        route("by its first cable", x, 0, 3, "13");
        route("the other way by its first cable", x, 3, 0, "02");
        x.cable(1, 3, 2, 20);
        route("by its second cable", x, 0, 3, "13");
        x.broken(3, true);
        route("the next one", x, 0, 3, "14");
        x.broken(1, true);
        route("the other office", x, 0, 3, "20");
        Codewordcable y = offices(2);
        y.cable(0, 1, 5, 20);
        y.cable(1, 0, 5, 20);
        route("the lower of two alike", y, 0, 1, "0");
        y.cable(1, 0, 4, 20);
        route("the less dear of three", y, 0, 1, "2");
    }

    /** "and so on": to the seventh cable of the longest way, of cables that are alike but for their numbers. */
    private static void lowestLastCable() {
        Codewordcable x = offices(8);
        for (int i = 0; i < 3; i++) {
            x.cable(6, 7, 5, 20);
        }
        for (int i = 5; i >= 0; i--) {
            x.cable(i + 1, i, 5, 20);
        }
        for (int i = 0; i < 3; i++) {
            x.cable(7, 6, 5, 20);
        }
        route("the lowest of six at the last", x, 0, 7, "8765430");
        route("the lowest of six at the first", x, 7, 0, "0345678");
        int[] broken = {0, 1, 2, 9, 10};
        String[] next = {"1", "2", "9", "a", "b"};
        for (int i = 0; i < broken.length; i++) {
            x.broken(broken[i], true);
            route("the next lowest at the last", x, 0, 7, "876543" + next[i]);
            route("the next lowest at the first", x, 7, 0, next[i] + "345678");
        }
        x.broken(1, false);
        route("one that is mended", x, 0, 7, "8765431");
    }

    private static void brokenCables() {
        Codewordcable x = drafted();
        x.broken(0, true);
        check.due("broken", Check.outcome(x, y -> y.send(0, 1, 0, true)).equals("IllegalStateException"), true);
        check.due("the draft stays", x.words(0, true), 1);
        x.cable(0, 2, 1, 1);
        x.cable(1, 2, 1, 1);
        check.due("round it", x.send(0, 1, 0, true), 0);
        check.due("its first cable", x.ofMessage(0, 4), 1);
    }

    private static void routesStay() {
        Codewordcable x = drafted();
        x.send(0, 1, Codewordcable.ORDINARY, true);
        x.cable(0, 1, 1, 20);
        check.due("a less dear cable comes", x.ofMessage(0, 4), 0);
        x.broken(0, true);
        x.pass(60);
        check.due("its cable is broken", x.ofMessage(0, 4), 0);
        check.due("it waits", x.ofMessage(0, 0), Codewordcable.UNDERWAY);
        x.broken(0, false);
        x.pass(1);
        check.due("and comes", x.ofMessage(0, 0), Codewordcable.DELIVERED);
        check.due("its price stays", x.ofMessage(0, 3), 6);
    }

    private static void stoppedAtOnce() {
        Codewordcable x = drafted();
        x.forbid(0, true);
        x.send(0, 1, Codewordcable.URGENT, true);
        check.due("STOPPED at once", x.ofMessage(0, 0), Codewordcable.STOPPED);
        check.due("where", x.ofMessage(0, 5), 0);
        check.due("at no cable", x.ofMessage(0, 4), NONE);
        check.due("none is there", x.broken(0, false), 0);
        check.due("its price", x.ofMessage(0, 3), 12);
        check.due("it is owed", x.account(0), 0);
        x.draft(0);
        x.send(0, 1, Codewordcable.URGENT, false);
        check.due("plain it goes", x.ofMessage(1, 0), Codewordcable.UNDERWAY);
        x.draft(1);
        x.send(0, 1, Codewordcable.URGENT, true);
        check.due("packed without a code word it goes", x.ofMessage(2, 0), Codewordcable.UNDERWAY);
        x.draft(0);
        x.send(1, 0, Codewordcable.URGENT, true);
        check.due("from the other one it goes", x.ofMessage(3, 0), Codewordcable.UNDERWAY);
    }

    private static void refused() {
        Check.Scene scene = SendTest::drafted;
        check.refused("from office 3", Check.INDEX, scene, y -> y.send(3, 0, 1, true));
        check.refused("from office -1", Check.INDEX, scene, y -> y.send(-1, 0, 1, true));
        check.refused("to office 3", Check.INDEX, scene, y -> y.send(0, 3, 1, true));
        check.refused("both 3, of no class", Check.INDEX, scene, y -> y.send(3, 3, 9, true));
        check.refused("both one", Check.ARGUMENT, scene, y -> y.send(1, 1, 1, true));
        check.refused("class -1", Check.ARGUMENT, scene, y -> y.send(0, 1, -1, true));
        check.refused("class 3", Check.ARGUMENT, scene, y -> y.send(0, 1, 3, true));
        check.refused("class 3, no route", Check.ARGUMENT, scene, y -> y.send(0, 2, 3, true));
        check.refused("no route", Check.STATE, scene, y -> y.send(0, 2, 1, true));
        check.refused("no draft", Check.STATE, () -> withoutDraft(), y -> y.send(0, 1, 1, true));
        check.refused("no draft, class 3", Check.ARGUMENT, () -> withoutDraft(), y -> y.send(0, 1, 3, true));
        check.refused("a 61st", Check.STATE, SendTest::sixty, y -> y.send(0, 1, 1, true));
        check.refused("a 61st, both one", Check.ARGUMENT, SendTest::sixty, y -> y.send(0, 0, 1, true));
        check.refused("a 61st, no office", Check.INDEX, SendTest::sixty, y -> y.send(0, 2, 1, true));
    }

    private static Codewordcable withoutDraft() {
        Codewordcable x = offices(2);
        x.cable(0, 1, 3, 1);
        return x;
    }

    private static void askedOfNone() {
        check.refused("ofMessage(0, 0)", Check.INDEX, SendTest::drafted, y -> y.ofMessage(0, 0));
        check.refused("ofMessage(-1, 9)", Check.INDEX, SendTest::sixty, y -> y.ofMessage(-1, 9));
        check.refused("ofMessage(60, 0)", Check.INDEX, SendTest::sixty, y -> y.ofMessage(60, 0));
        check.refused("ofMessage(0, -1)", Check.ARGUMENT, SendTest::sixty, y -> y.ofMessage(0, -1));
        check.refused("ofMessage(0, 6)", Check.ARGUMENT, SendTest::sixty, y -> y.ofMessage(0, 6));
    }
}
