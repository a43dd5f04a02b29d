/** Promise 4: lift. */
public final class Promise04LiftTest {
    public static void main(String[] args) {
        Check.run(Promise04LiftTest.class);
    }

    private static House withNotes(Check check) {
        House x = check.house(2);
        x.given("lay", 0, 3, 10, 20);
        x.given("lay", 0, 3, 31, 5);
        x.given("lay", 0, 4, 10, 7);
        return x;
    }

    static void atEachOfItsSteps(Check check) {
        House x = check.house(1);
        for (int step = 10; step < 27; step++) {
            x.given("lay", 0, 3, 10, 17);
            x.due(17, "lift", 0, 3, step);
            x.due(0, "count", 10);
        }
    }

    static void nextToItsStepsThereIsNone(Check check) {
        House x = withNotes(check);
        x.refuses("lift", 0, 3, 9);
        x.refuses("lift", 0, 3, 30);
        x.refuses("lift", 0, 3, 36);
        x.refuses("lift", 0, 4, 17);
        x.refuses("lift", 0, 2, 10);
        x.refuses("lift", 0, 5, 10);
        x.due(3, "count", 10);
    }

    static void nothingIsThereYet(Check check) {
        House x = check.house(1);
        x.refuses("lift", 0, 0, 0);
        x.refuses("lift", 0, 23, 299);
        x.due(0, "count", 10);
    }

    static void noSuchRoll(Check check) {
        House x = withNotes(check);
        x.refusesOutside(0, 1, 0, "lift", 0, 3, 10);
        x.refuses("lift", 1, 3, 10);
        x.due(3, "count", 10);
    }

    static void noSuchPitch(Check check) {
        House x = check.house(1);
        x.lays(0, 9, new int[] {0, 10}, new int[] {23, 10});
        x.refusesOutside(0, 23, 1, "lift", 0, 0, 10);
        x.due(2, "count", 10);
        x.due(9, "lift", 0, 0, 10);
        x.due(9, "lift", 0, 23, 10);
    }

    static void noSuchStep(Check check) {
        House x = check.house(1);
        x.lays(0, 40, new int[] {5, 0}, new int[] {5, 260});
        x.refusesOutside(0, 299, 2, "lift", 0, 5, 0);
        x.due(2, "count", 10);
        x.due(40, "lift", 0, 5, 0);
        x.due(40, "lift", 0, 5, 299);
    }

    static void theShortestAndTheLongest(Check check) {
        House x = check.house(1);
        x.given("lay", 0, 5, 100, 1);
        x.given("lay", 0, 6, 240, 60);
        x.due(1, "lift", 0, 5, 100);
        x.due(60, "lift", 0, 6, 299);
        x.due(0, "hole", 0, 5, 100);
        x.due(0, "hole", 0, 6, 240);
        x.due(0, "hole", 0, 6, 247);
        x.due(0, "hole", 0, 6, 299);
    }

    static void aSecondTimeThereIsNone(Check check) {
        House x = withNotes(check);
        x.due(20, "lift", 0, 3, 17);
        x.refuses("lift", 0, 3, 17);
        x.refuses("lift", 0, 3, 10);
        x.due(2, "count", 10);
    }

    static void theOthersStayInOrder(Check check) {
        House x = withNotes(check);
        x.due(20, "lift", 0, 3, 10);
        x.hasNotes(0, new int[] {4, 10, 7}, new int[] {3, 31, 5});
        x.due(5, "lift", 0, 3, 35);
        x.hasNotes(0, new int[] {4, 10, 7});
        x.due(7, "lift", 0, 4, 16);
        x.hasNotes(0);
    }

    static void theMiddleOfThree(Check check) {
        House x = withNotes(check);
        x.due(7, "lift", 0, 4, 10);
        x.hasNotes(0, new int[] {3, 10, 20}, new int[] {3, 31, 5});
        x.due(1, "hole", 0, 3, 10);
        x.due(2, "hole", 0, 3, 17);
    }

    static void itsStepsAreFreeAgain(Check check) {
        House x = withNotes(check);
        x.due(-2, "lay", 0, 3, 20, 10);
        x.due(20, "lift", 0, 3, 20);
        for (int step = 10; step < 30; step++) {
            x.due(0, "hole", 0, 3, step);
        }
        x.due(1, "lay", 0, 3, 20, 10);
    }

    static void thePaperBearsAnotherInItsPlace(Check check) {
        House x = check.house(1);
        x.lays(0, 9, new int[] {10, 0}, new int[] {11, 0}, new int[] {12, 0});
        x.due(-3, "lay", 0, 13, 0, 1);
        x.due(9, "lift", 0, 11, 8);
        x.due(1, "lay", 0, 13, 0, 1);
    }

    static void allOfSixtyFromTheFrontAndFromTheBack(Check check) {
        House x = check.house(1);
        for (int i = 0; i < 60; i++) {
            x.given("lay", 0, 7, 4 * i, 1 + i % 3);
        }
        x.refuses("lift", 0, 9, 0);
        for (int i = 0; i < 30; i++) {
            x.due(1 + i % 3, "lift", 0, 7, 4 * i);
            x.due(4 * (i + 1), "note", 0, 0, 1);
            x.due(1 + (59 - i) % 3, "lift", 0, 7, 4 * (59 - i));
            x.due(58 - 2 * i, "count", 10);
        }
        x.refuses("lift", 0, 7, 120);
    }

    static void aRefusedLiftChangesNothing(Check check) {
        House x = withNotes(check);
        x.refusesEach("lift", new int[][] {{2, 3, 10}, {-1, 3, 10}, {0, 24, 10}, {0, -1, 10}, {0, 3, 300},
            {0, 3, -1}, {0, 3, 9}, {0, 3, 30}, {1, 3, 10}, {House.MAX, House.MAX, House.MAX}});
        x.isAsWithoutOtherCalls();
    }
}
