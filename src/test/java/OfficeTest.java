/** Promises 1 and 6 to 10: a new object, offices, cables, what breaks, what is forbidden, keys. */
public final class OfficeTest {
    private static final int NONE = Codewordcable.NONE;
    private static final Check check = new Check();

    public static void main(String[] args) {
        newObject();
        constants();
        offices();
        cables();
        cablesRefused();
        broken();
        forbids();
        keys();
        check.end();
    }

    private static Codewordcable two() {
        Codewordcable x = new Codewordcable();
        Check.offices(x, 2);
        x.idea(5);
        return x;
    }

    private static Codewordcable fullOffices() {
        Codewordcable x = new Codewordcable();
        Check.offices(x, 8);
        return x;
    }

    private static Codewordcable fullCables() {
        Codewordcable x = two();
        for (int i = 0; i < 12; i++) {
            x.cable(0, 1, 100 - i, 1);
        }
        return x;
    }

    private static void newObject() {
        Check.Scene scene = Codewordcable::new;
        check.refused("no idea", Check.INDEX, scene, y -> y.draft(0));
        check.refused("no office", Check.INDEX, scene, y -> y.words(0, true));
        check.refused("no account", Check.INDEX, scene, y -> y.account(0));
        check.refused("no message", Check.INDEX, scene, y -> y.claim(0));
        check.refused("no cable", Check.INDEX, scene, y -> y.broken(0, true));
        check.due("the minute 0", new Codewordcable().pass(1), 1);
        check.due("the day 0", new Codewordcable().rest(1), 1440);
        Codewordcable x = two();
        check.due("an empty draft", x.words(0, false), 0);
        check.due("the key at first", x.key(0, 0), 0);
        check.due("allowed at first", x.forbid(0, false), false);
        check.due("the account at first", x.account(1), 0);
        check.due("the first conference", x.conference(0, 5, 5, 0), 1);
    }

    private static void constants() {
        check.due("NONE", Codewordcable.NONE, -1);
        check.due("UNCLEAR", Codewordcable.UNCLEAR, -2);
        check.due("DEFERRED", Codewordcable.DEFERRED, 0);
        check.due("ORDINARY", Codewordcable.ORDINARY, 1);
        check.due("URGENT", Codewordcable.URGENT, 2);
        check.due("UNDERWAY", Codewordcable.UNDERWAY, 0);
        check.due("DELIVERED", Codewordcable.DELIVERED, 1);
        check.due("STOPPED", Codewordcable.STOPPED, 2);
    }

    private static void offices() {
        Codewordcable x = new Codewordcable();
        for (int i = 0; i < 8; i++) {
            check.due("office " + i, x.office(), i);
        }
        check.due("a cable of the last one", x.cable(7, 0, 1, 1), 0);
        check.refused("a ninth office", Check.STATE, OfficeTest::fullOffices, y -> y.office());
    }

    private static void cables() {
        Codewordcable x = two();
        for (int i = 0; i < 12; i++) {
            check.due("cable " + i, x.cable(i % 2, 1 - i % 2, i == 0 ? 1 : 100, i == 0 ? 1 : 20), i);
        }
    }

    private static void cablesRefused() {
        Check.Scene scene = OfficeTest::two;
        check.refused("no such office", Check.INDEX, scene, y -> y.cable(2, 0, 1, 1));
        check.refused("no such other", Check.INDEX, scene, y -> y.cable(0, 2, 1, 1));
        check.refused("office -1", Check.INDEX, scene, y -> y.cable(-1, 0, 1, 1));
        check.refused("both not there, nor the rate", Check.INDEX, scene, y -> y.cable(2, 2, 0, 0));
        check.refused("both one", Check.ARGUMENT, scene, y -> y.cable(1, 1, 1, 1));
        check.refused("rate 0", Check.ARGUMENT, scene, y -> y.cable(0, 1, 0, 1));
        check.refused("rate 101", Check.ARGUMENT, scene, y -> y.cable(0, 1, 101, 1));
        check.refused("words 0", Check.ARGUMENT, scene, y -> y.cable(0, 1, 1, 0));
        check.refused("words 21", Check.ARGUMENT, scene, y -> y.cable(0, 1, 1, 21));
        check.refused("a 13th", Check.STATE, OfficeTest::fullCables, y -> y.cable(0, 1, 1, 1));
        check.refused("a 13th of rate 0", Check.ARGUMENT, OfficeTest::fullCables, y -> y.cable(0, 1, 0, 1));
        check.refused("a 13th to office 2", Check.INDEX, OfficeTest::fullCables, y -> y.cable(0, 2, 1, 1));
    }

    private static void broken() {
        Codewordcable x = two();
        x.cable(0, 1, 3, 1);
        check.due("none there", x.broken(0, false), 0);
        for (int i = 0; i < 3; i++) {
            x.draft(0);
            x.send(0, 1, Codewordcable.ORDINARY, false);
        }
        check.due("three there", x.broken(0, true), 3);
        x.pass(5);
        check.due("three still there", x.broken(0, true), 3);
        check.due("mended", x.broken(0, false), 3);
        x.pass(1);
        check.due("one is through", x.broken(0, false), 2);
        x.pass(2);
        check.due("all are through", x.broken(0, true), 0);
        x.draft(0);
        check.due("no route when broken", Check.outcome(x, y -> y.send(0, 1, 0, false)).equals("IllegalStateException"),
                true);
        x.broken(0, false);
        check.due("a route when mended", x.send(0, 1, 0, false), 3);
        check.refused("no such cable", Check.INDEX, OfficeTest::fullCables, y -> y.broken(12, true));
        check.refused("cable -1", Check.INDEX, OfficeTest::fullCables, y -> y.broken(-1, true));
    }

    private static void forbids() {
        Codewordcable x = two();
        check.due("forbid", x.forbid(1, true), false);
        check.due("forbid again", x.forbid(1, true), true);
        check.due("the other one", x.forbid(0, false), false);
        check.due("allow", x.forbid(1, false), true);
        check.due("allow again", x.forbid(1, false), false);
        check.refused("office 2", Check.INDEX, OfficeTest::two, y -> y.forbid(2, true) ? 1 : 0);
        check.refused("office -1", Check.INDEX, OfficeTest::two, y -> y.forbid(-1, true) ? 1 : 0);
    }

    private static void keys() {
        Codewordcable x = two();
        check.due("a first key", x.key(0, 39), 0);
        check.due("the key before", x.key(0, 7), 39);
        check.due("the other office's key", x.key(1, 3), 0);
        check.due("and again", x.key(0, 0), 7);
        check.refused("office 2", Check.INDEX, OfficeTest::two, y -> y.key(2, 0));
        check.refused("office 2, key 40", Check.INDEX, OfficeTest::two, y -> y.key(2, 40));
        check.refused("key 40", Check.ARGUMENT, OfficeTest::two, y -> y.key(0, 40));
        check.refused("key -1", Check.ARGUMENT, OfficeTest::two, y -> y.key(0, NONE));
    }
}
