/** Promise 7: tempo (seen by 11, ticks, and 25, count). */
public final class Promise07TempoTest {
    public static void main(String[] args) {
        Check.run(Promise07TempoTest.class);
    }

    private static House withTenMarks(Check check) {
        House x = check.house(2);
        for (int i = 1; i <= 10; i++) {
            x.due(i, "tempo", 0, 10 * i, 3);
        }
        return x;
    }

    static void noSuchRoll(Check check) {
        House x = check.house(0);
        x.refuses("tempo", 0, 0, 1);
        x.given("roll");
        x.refusesOutside(0, 0, 0, "tempo", 0, 0, 1);
        x.due(0, "count", 20);
    }

    static void stepsAre0To299(Check check) {
        House x = check.house(1);
        x.refusesOutside(0, 299, 1, "tempo", 0, 0, 1);
        x.due(0, "count", 20);
        x.due(1, "tempo", 0, 299, 9);
        x.due(607, "ticks", 0);
        x.due(2, "tempo", 0, 0, 3);
        x.due(299 * 3 + 9, "ticks", 0);
    }

    static void ticksAre1To9(Check check) {
        House x = check.house(1);
        x.refusesOutside(1, 9, 2, "tempo", 0, 0, 1);
        x.due(0, "count", 20);
        x.due(1, "tempo", 0, 0, 1);
        x.due(300, "ticks", 0);
        x.due(1, "tempo", 0, 0, 9);
        x.due(2700, "ticks", 0);
    }

    static void aheadOfTheFirstItIs2(Check check) {
        House x = check.house(1);
        x.due(600, "ticks", 0);
        x.due(1, "tempo", 0, 1, 9);
        x.due(2 + 299 * 9, "ticks", 0);
        x.due(2, "tempo", 0, 299, 1);
        x.due(2 + 298 * 9 + 1, "ticks", 0);
    }

    static void eachGoesOnUpToTheNext(Check check) {
        House x = check.house(1);
        x.due(1, "tempo", 0, 100, 1);
        x.due(200 + 200, "ticks", 0);
        x.due(2, "tempo", 0, 101, 5);
        x.due(200 + 1 + 199 * 5, "ticks", 0);
        x.due(3, "tempo", 0, 50, 9);
        x.due(100 + 450 + 1 + 199 * 5, "ticks", 0);
    }

    static void theLaterMarkOfAStepStands(Check check) {
        House x = check.house(1);
        x.due(1, "tempo", 0, 100, 5);
        x.due(1, "tempo", 0, 100, 3);
        x.due(200 + 600, "ticks", 0);
        x.due(1, "tempo", 0, 100, 3);
        x.due(200 + 600, "ticks", 0);
        x.due(1, "tempo", 0, 100, 2);
        x.due(600, "ticks", 0);
        x.due(1, "count", 20);
    }

    static void aMarkThatTurnsNothingIsOneToo(Check check) {
        House x = check.house(1);
        x.due(1, "tempo", 0, 0, 2);
        x.due(2, "tempo", 0, 5, 2);
        x.due(600, "ticks", 0);
        x.due(2, "count", 20);
    }

    static void anEleventhIsRefused(Check check) {
        House x = withTenMarks(check);
        int before = x.ask("ticks", 0);
        x.refuses("tempo", 0, 0, 9);
        x.refuses("tempo", 0, 15, 9);
        x.refuses("tempo", 0, 299, 9);
        x.due(10, "count", 20);
        x.due(before, "ticks", 0);
        x.due(1, "tempo", 1, 0, 9);
    }

    static void ofTenEachMayBeReplaced(Check check) {
        House x = withTenMarks(check);
        for (int i = 1; i <= 10; i++) {
            x.due(10, "tempo", 0, 10 * i, 1);
        }
        x.due(20 + 290, "ticks", 0);
        x.refuses("tempo", 0, 101, 1);
        x.due(10, "count", 20);
    }

    static void anotherRollHasItsOwn(Check check) {
        House x = withTenMarks(check);
        x.due(0, "count", 21);
        x.due(600, "ticks", 1);
        x.due(1, "tempo", 1, 10, 4);
        x.due(10, "count", 20);
    }

    static void aRefusedMarkChangesNothing(Check check) {
        House x = withTenMarks(check);
        x.refusesEach("tempo", new int[][] {{2, 0, 1}, {-1, 0, 1}, {0, -1, 1}, {0, 300, 1}, {0, 10, 0}, {0, 10, 10},
            {0, 10, -1}, {0, 9, 1}, {0, 11, 9}, {1, 10, 0}, {1, 300, 5}});
        x.isAsWithoutOtherCalls();
    }
}
