/** Promise 11: ticks. */
public final class Promise11TicksTest {
    public static void main(String[] args) {
        Check.run(Promise11TicksTest.class);
    }

    static void noSuchRoll(Check check) {
        House x = check.house(0);
        x.refuses("ticks", 0);
        x.given("roll");
        x.given("roll");
        x.refusesOutside(0, 1, 0, "ticks", 0);
        x.due(600, "ticks", 1);
    }

    static void twoAStepWithoutMarks(Check check) {
        House x = check.house(1);
        x.due(600, "ticks", 0);
        x.given("lay", 0, 3, 0, 60);
        x.due(600, "ticks", 0);
    }

    static void theFewestAndTheMost(Check check) {
        House x = check.house(2);
        x.given("tempo", 0, 0, 1);
        x.given("tempo", 1, 0, 9);
        x.due(300, "ticks", 0);
        x.due(2700, "ticks", 1);
    }

    static void aMarkAtTheLastStepTellsOfOneStep(Check check) {
        House x = check.house(1);
        x.given("tempo", 0, 299, 9);
        x.due(299 * 2 + 9, "ticks", 0);
        x.given("tempo", 0, 299, 1);
        x.due(299 * 2 + 1, "ticks", 0);
    }

    static void aMarkAtStep1LeavesStep0At2(Check check) {
        House x = check.house(1);
        x.given("tempo", 0, 1, 9);
        x.due(2 + 299 * 9, "ticks", 0);
    }

    static void tenMarksAllCount(Check check) {
        House x = check.house(1);
        int all = 2 * 20;
        for (int i = 0; i < 10; i++) {
            int ticks = 1 + (i * 5) % 9;
            x.given("tempo", 0, 20 + 28 * i, ticks);
            all += 28 * ticks;
        }
        x.due(all, "ticks", 0);
        x.refuses("tempo", 0, 19, 9);
        x.due(all, "ticks", 0);
    }

    static void askingChangesNothing(Check check) {
        House x = check.house(1);
        x.given("tempo", 0, 4, 5);
        x.refuses("ticks", 1);
        x.refuses("ticks", -1);
        x.isAsWithoutOtherCalls();
    }
}
