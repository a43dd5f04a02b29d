/** Promise 24: there. */
public final class Promise24ThereTest {
    public static void main(String[] args) {
        Check.run(Promise24ThereTest.class);
    }

    static void placesAre1To99(Check check) {
        House x = check.house(0);
        x.given("line", 1, 0, 1);
        x.given("line", 2, 0, 99);
        x.given("line", 3, 0, 0);
        x.refusesOutside(1, 99, 0, "there", 1, 0, 0);
        x.due(1, "there", 1, 0, 0);
        x.due(1, "there", 99, 0, 0);
    }

    static void place0IsRefused(Check check) {
        House x = check.house(0);
        x.refuses("there", 0, 0, 0);
        x.given("line", 1, 0, 0);
        x.refuses("there", 0, 0, 0);
        x.refuses("there", 0, 100000, 0);
    }

    static void daysAre0To100000(Check check) {
        House x = check.house(0);
        x.given("line", 1, 0, 5);
        x.refusesOutside(0, 100000, 1, "there", 5, 0, 0);
        x.due(1, "there", 5, 0, 0);
        x.due(1, "there", 5, 100000, 0);
    }

    static void knownIsNotBehindTheDayAtHand(Check check) {
        House x = check.house(0);
        x.given("line", 1, 0, 5);
        x.refusesOutside(0, 0, 2, "there", 5, 0, 0);
        x.given("day", 10);
        x.refusesOutside(0, 10, 2, "there", 5, 0, 0);
        x.due(1, "there", 5, 0, 0);
        x.due(1, "there", 5, 0, 10);
    }

    static void knownIsAtMost100000(Check check) {
        House x = check.house(0);
        for (int i = 0; i < 100; i++) {
            x.given("day", 1000);
        }
        x.given("line", 1, 7, 3);
        x.given("day", 1);
        x.given("line", 1, 7, 4);
        x.due(0, "there", 3, 7, 99999);
        x.due(1, "there", 3, 7, 100000);
        x.due(0, "there", 4, 7, 100000);
        x.refuses("there", 4, 7, 100001);
        x.refuses("there", 4, 7, 100002);
    }

    static void withoutLinesThereAreNone(Check check) {
        House x = check.house(0);
        for (int place = 1; place <= 99; place++) {
            x.due(0, "there", place, 100000, 0);
        }
    }

    static void fromTheLinesDayOn(Check check) {
        House x = check.house(0);
        for (int copy : new int[] {1, 2, 3, 500, 1000}) {
            x.given("line", copy, 10, 50);
        }
        x.due(0, "there", 50, 9, 0);
        x.due(5, "there", 50, 10, 0);
        x.due(5, "there", 50, 100000, 0);
        x.due(0, "there", 49, 10, 0);
        x.due(0, "there", 51, 10, 0);
    }

    static void eachCopyIsInOnePlace(Check check) {
        House x = check.house(0);
        for (int copy : new int[] {1, 2, 3, 500, 1000}) {
            x.given("line", copy, 10, 50);
        }
        x.given("line", 1, 12, 50);
        x.given("line", 2, 12, 51);
        x.given("line", 3, 8, 51);
        x.given("line", 500, 10, 0);
        int[][] due = {{50, 10, 4}, {50, 12, 3}, {51, 12, 1}, {51, 10, 0}, {51, 8, 1}, {50, 8, 0}, {99, 12, 0}};
        for (int[] d : due) {
            x.due(d[2], "there", d[0], d[1], 0);
        }
    }

    static void aCopyOfManyLinesCountsOnce(Check check) {
        House x = check.house(0);
        for (int day = 0; day < 30; day++) {
            x.given("line", 7, day, 50);
            x.given("line", 7, day, 50);
        }
        x.due(1, "there", 50, 0, 0);
        x.due(1, "there", 50, 29, 0);
    }

    static void ofOneDayTheLastTold(Check check) {
        House x = check.house(0);
        x.given("line", 7, 10, 9);
        x.given("line", 8, 10, 9);
        x.given("line", 7, 10, 1);
        x.due(1, "there", 9, 10, 0);
        x.due(1, "there", 1, 10, 0);
        x.given("line", 7, 10, 9);
        x.due(2, "there", 9, 10, 0);
        x.due(0, "there", 1, 10, 0);
    }

    static void toldUpToTheDayThatItIsKnownOn(Check check) {
        House x = check.house(0);
        x.given("line", 1, 5, 11);
        x.given("line", 2, 5, 11);
        x.given("day", 3);
        x.given("line", 1, 5, 22);
        x.given("line", 3, 5, 11);
        int[][] due = {{11, 0, 2}, {11, 2, 2}, {11, 3, 2}, {22, 2, 0}, {22, 3, 1}};
        for (int[] d : due) {
            x.due(d[2], "there", d[0], 5, d[1]);
        }
    }

    static void twoHundredCopies(Check check) {
        House x = check.house(0);
        for (int i = 1; i <= 200; i++) {
            x.given("line", i * 5, 4, 6);
        }
        x.due(0, "there", 6, 3, 0);
        x.due(200, "there", 6, 4, 0);
    }

    static void oneAnswerIsNotOfThatAhead(Check check) {
        House x = check.house(0);
        x.given("line", 1, 5, 11);
        x.given("line", 2, 9, 11);
        x.due(2, "there", 11, 9, 0);
        x.due(1, "there", 11, 5, 0);
        x.due(0, "there", 11, 4, 0);
        x.due(2, "there", 11, 9, 0);
    }

    static void askingChangesNothing(Check check) {
        House x = check.house(0);
        x.given("day", 10);
        x.given("line", 1, 5, 3);
        x.due(1, "there", 3, 5, 10);
        x.refusesEach("there", new int[][] {{0, 5, 5}, {100, 5, 5}, {3, -1, 5}, {3, 100001, 5}, {3, 5, -1},
            {3, 5, 11}, {House.MIN, House.MIN, House.MIN}, {House.MAX, House.MAX, House.MAX}});
        x.isAsWithoutOtherCalls();
    }
}
