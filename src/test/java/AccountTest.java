/** Promises 23 and 24: accounts, and the same found again from the messages. */
public final class AccountTest {
    private static final int NONE = Codewordcable.NONE;
    private static final Check check = new Check();

    public static void main(String[] args) {
        atFirst();
        threeOffices();
        ownCable();
        stopped();
        laterChanges();
        many();
        refused();
        check.end();
    }

    /** 0 - 1 of the administration of 1, 1 - 2 of that of 2. */
    private static Codewordcable line() {
        Codewordcable x = new Codewordcable();
        Check.offices(x, 3);
        x.cable(1, 0, 3, 1);
        x.cable(2, 1, 10, 1);
        Check.ideas(x, 15, 20);
        x.entry(Check.code("abcde"), 1, NONE, NONE, NONE);
        return x;
    }

    private static void accounts(String what, Codewordcable x, int... want) {
        for (int office = 0; office < want.length; office++) {
            check.due(what + ", account " + office, x.account(office), want[office]);
            check.due(what + ", account " + office + " anew", x.accountAnew(office), want[office]);
        }
    }

    private static void atFirst() {
        accounts("at first", line(), 0, 0, 0);
    }

    private static void threeOffices() {
        Codewordcable x = line();
        Check.drafts(x, 0, 0);
        x.send(0, 2, Codewordcable.URGENT, false);
        accounts("as it is sent", x, -104, 24, 80);
        x.pass(60);
        accounts("as it came", x, -104, 24, 80);
        x.draft(0);
        x.send(0, 1, Codewordcable.DEFERRED, false);
        accounts("a second one", x, -107, 27, 80);
        x.draft(0);
        x.send(1, 2, Codewordcable.ORDINARY, false);
        accounts("from the second office", x, -107, 7, 100);
    }

    private static void ownCable() {
        Codewordcable x = line();
        x.draft(0);
        x.send(1, 0, Codewordcable.URGENT, false);
        accounts("by its own cable", x, 0, 0, 0);
        x.draft(0);
        x.send(2, 0, Codewordcable.ORDINARY, false);
        accounts("in part by its own", x, 0, 6, -6);
    }

    private static void stopped() {
        Codewordcable x = line();
        x.forbid(0, true);
        x.draft(1);
        x.send(0, 2, Codewordcable.DEFERRED, true);
        check.due("STOPPED", x.ofMessage(0, 0), Codewordcable.STOPPED);
        accounts("STOPPED at once", x, -13, 3, 10);
        x.forbid(1, true);
        x.draft(1);
        x.send(2, 0, Codewordcable.DEFERRED, true);
        x.pass(1);
        check.due("STOPPED on the way", x.ofMessage(1, 5), 1);
        accounts("STOPPED on the way", x, -13, 6, 7);
    }

    /** What comes later changes nothing of what is owed. */
    private static void laterChanges() {
        Codewordcable x = line();
        x.draft(1);
        x.send(0, 2, Codewordcable.DEFERRED, true);
        x.conference(0, 5, 5, 3);
        x.key(0, 7);
        x.cable(0, 2, 1, 20);
        x.broken(0, true);
        x.wrong(0, 0, 0, 9);
        x.rest(3);
        accounts("later", x, -13, 3, 10);
    }

    private static void many() {
        Codewordcable x = line();
        for (int i = 0; i < 60; i++) {
            x.draft(1);
            x.send(0, 2, i % 3, false);
        }
        accounts("60 messages", x, -13 * 2 * 140, 3 * 2 * 140, 10 * 2 * 140);
    }

    private static void refused() {
        check.refused("account(3)", Check.INDEX, AccountTest::line, y -> y.account(3));
        check.refused("account(-1)", Check.INDEX, AccountTest::line, y -> y.account(NONE));
        check.refused("accountAnew(3)", Check.INDEX, AccountTest::line, y -> y.accountAnew(3));
        check.refused("accountAnew(-1)", Check.INDEX, AccountTest::line, y -> y.accountAnew(NONE));
    }
}
