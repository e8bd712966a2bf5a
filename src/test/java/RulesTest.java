/** Promises 11 and 12: conferences, the days from which they count, and offices that keep the old rules. */
public final class RulesTest {
    private static final int NONE = Codewordcable.NONE;
    private static final Check check = new Check();

    public static void main(String[] args) {
        conferences();
        conferencesRefused();
        days();
        latestTold();
        reserves();
        reservesRefused();
        vowels();
        check.end();
    }

    private static Codewordcable one() {
        Codewordcable x = new Codewordcable();
        Check.offices(x, 2);
        Check.ideas(x, 20);
        Check.drafts(x, 0);
        return x;
    }

    private static Codewordcable full() {
        Codewordcable x = one();
        for (int i = 0; i < 12; i++) {
            x.conference(0, 5 + i, 5, 0);
        }
        return x;
    }

    private static void conferences() {
        Codewordcable x = one();
        for (int i = 1; i <= 12; i++) {
            check.due("conference " + i, x.conference(i == 1 ? 0 : 1000, i == 1 ? 5 : 20, 5 + i % 3 * 5, i % 4), i);
        }
    }

    private static void conferencesRefused() {
        Check.Scene scene = RulesTest::one;
        check.refused("day -1", Check.ARGUMENT, scene, y -> y.conference(-1, 5, 5, 0));
        check.refused("day 1001", Check.ARGUMENT, scene, y -> y.conference(1001, 5, 5, 0));
        check.refused("plain 4", Check.ARGUMENT, scene, y -> y.conference(0, 4, 5, 0));
        check.refused("plain 21", Check.ARGUMENT, scene, y -> y.conference(0, 21, 5, 0));
        int[] codes = {0, 4, 6, 9, 11, 14, 16, 20, -5};
        for (int code : codes) {
            check.refused("code " + code, Check.ARGUMENT, scene, y -> y.conference(0, 5, code, 0));
        }
        check.refused("vowels -1", Check.ARGUMENT, scene, y -> y.conference(0, 5, 5, -1));
        check.refused("vowels 4", Check.ARGUMENT, scene, y -> y.conference(0, 5, 5, 4));
        check.refused("a 13th", Check.STATE, RulesTest::full, y -> y.conference(0, 5, 5, 0));
        check.refused("a 13th with vowels 4", Check.ARGUMENT, RulesTest::full, y -> y.conference(0, 5, 5, 4));
    }

    private static void days() {
        Codewordcable x = one();
        check.due("the rules at first", x.words(0, false), 2);
        x.conference(1, 5, 5, 0);
        check.due("the day before", x.words(0, false), 2);
        for (int i = 0; i < 23; i++) {
            x.pass(60);
        }
        check.due("minute 1439", x.pass(59), 1439);
        check.due("the day before, its last minute", x.words(0, false), 2);
        x.pass(1);
        check.due("the day has come", x.words(0, false), 4);
        x.conference(2, 20, 5, 0);
        check.due("the next is not yet", x.words(1, false), 4);
        x.rest(1);
        check.due("the next day has come", x.words(1, false), 1);
    }

    private static void latestTold() {
        Codewordcable x = one();
        x.conference(0, 5, 5, 0);
        x.conference(3, 7, 5, 0);
        x.conference(1, 10, 5, 0);
        check.due("day 0", x.words(0, false), 4);
        x.rest(1);
        check.due("day 1: the third", x.words(0, false), 2);
        x.rest(2);
        check.due("day 3: still the third, told later", x.words(0, false), 2);
        x.reserve(0, 3);
        check.due("day 3 without the third", x.words(0, false), 3);
    }

    private static void reserves() {
        Codewordcable x = one();
        x.conference(0, 5, 5, 0);
        x.conference(0, 10, 5, 0);
        x.conference(2, 20, 5, 0);
        check.due("a reserve of the first", x.reserve(0, 1), 2);
        check.due("a reserve of the second too", x.reserve(0, 2), 0);
        check.due("the rules at first there", x.words(0, false), 2);
        check.due("at the other office", x.reserve(1, 2), 1);
        check.due("the first counts there", x.words(1, false), 4);
        check.due("again, it stays", x.reserve(1, 2), 1);
        check.due("one whose day has not come", x.reserve(1, 3), 1);
        x.rest(2);
        check.due("the third has come where it is not reserved", x.words(0, false), 1);
        check.due("it never counts where it is", x.words(1, false), 4);
        check.due("asked again", x.reserve(0, 1), 3);
    }

    private static void reservesRefused() {
        check.refused("office 2", Check.INDEX, RulesTest::full, y -> y.reserve(2, 1));
        check.refused("office -1", Check.INDEX, RulesTest::full, y -> y.reserve(-1, 1));
        check.refused("conference 0", Check.INDEX, RulesTest::full, y -> y.reserve(0, 0));
        check.refused("conference 13", Check.INDEX, RulesTest::full, y -> y.reserve(0, 13));
        check.refused("conference -1", Check.INDEX, RulesTest::full, y -> y.reserve(0, -1));
        check.refused("none was told", Check.INDEX, RulesTest::one, y -> y.reserve(0, 1));
        check.due("conference 12", full().reserve(0, 12), 11);
    }

    /** Entries whose words have 0, 1, 2 and 3 vowels: each costs one word less than its plain idea. */
    private static void vowels() {
        String[] codes = {"bcdfg", "bcdfa", "bedcu", "eioxx"};
        for (int wanted = 0; wanted <= 3; wanted++) {
            for (int i = 0; i < codes.length; i++) {
                Codewordcable x = one();
                x.entry(Check.code(codes[i]), 0, NONE, NONE, NONE);
                x.conference(0, 10, 5, wanted);
                check.due(codes[i] + " of " + wanted, x.words(0, true), i >= wanted ? 1 : 2);
            }
        }
    }
}
