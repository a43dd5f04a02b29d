/** Promise 23: where. */
public final class Promise23WhereTest {
    public static void main(String[] args) {
        Check.run(Promise23WhereTest.class);
    }

    static void noSuchCopyThrows(Check check) {
        House x = check.house(0);
        x.given("line", 1, 0, 5);
        x.given("line", 1000, 0, 6);
        x.refusesOutside(1, 1000, 0, "where", 1, 0, 0);
        x.due(5, "where", 1, 0, 0);
        x.due(6, "where", 1000, 0, 0);
    }

    static void daysAre0To100000(Check check) {
        House x = check.house(0);
        x.given("line", 1, 0, 5);
        x.refusesOutside(0, 100000, 1, "where", 1, 0, 0);
        x.due(5, "where", 1, 0, 0);
        x.due(5, "where", 1, 100000, 0);
    }

    static void knownIsNotBehindTheDayAtHand(Check check) {
        House x = check.house(0);
        x.given("line", 1, 0, 5);
        x.refusesOutside(0, 0, 2, "where", 1, 0, 0);
        x.given("day", 10);
        x.refusesOutside(0, 10, 2, "where", 1, 0, 0);
        x.due(5, "where", 1, 0, 0);
        x.due(5, "where", 1, 0, 10);
        x.refuses("where", 1, 0, 11);
        x.given("day", 1);
        x.due(5, "where", 1, 0, 11);
    }

    static void knownIsAtMost100000(Check check) {
        House x = check.house(0);
        for (int i = 0; i < 100; i++) {
            x.given("day", 1000);
        }
        x.given("line", 1, 7, 3);
        x.due(3, "where", 1, 7, 100000);
        x.due(0, "where", 1, 7, 99999);
        x.refuses("where", 1, 7, 100001);
        x.given("day", 1);
        x.given("line", 1, 7, 4);
        x.due(3, "where", 1, 7, 100000);
        x.refuses("where", 1, 7, 100001);
        x.given("day", 1000);
        x.refusesOutside(0, 100000, 2, "where", 1, 7, 0);
    }

    static void theDayAskedForMayBeAheadOfOrBehindTheDayAtHand(Check check) {
        House x = check.house(0);
        x.given("day", 10);
        x.given("line", 1, 5, 3);
        x.due(0, "where", 1, 4, 10);
        x.due(3, "where", 1, 5, 10);
        x.due(3, "where", 1, 11, 10);
        x.due(3, "where", 1, 100000, 10);
    }

    static void withoutALineItIsPlace0(Check check) {
        House x = check.house(0);
        x.due(0, "where", 1, 0, 0);
        x.due(0, "where", 1000, 100000, 0);
        x.given("line", 2, 0, 5);
        x.due(0, "where", 1, 100000, 0);
        x.due(0, "where", 3, 100000, 0);
    }

    static void fromTheLinesDayOn(Check check) {
        House x = check.house(0);
        x.given("line", 7, 10, 4);
        x.due(0, "where", 7, 0, 0);
        x.due(0, "where", 7, 9, 0);
        x.due(4, "where", 7, 10, 0);
        x.due(4, "where", 7, 11, 0);
        x.due(4, "where", 7, 100000, 0);
    }

    static void theGreatestDayAndNotTheLastTold(Check check) {
        House x = check.house(0);
        x.given("line", 7, 20, 2);
        x.given("line", 7, 10, 1);
        x.given("line", 8, 15, 5);
        x.given("line", 7, 30, 3);
        int[][] due = {{9, 0}, {10, 1}, {19, 1}, {20, 2}, {29, 2}, {30, 3}, {100000, 3}};
        for (int[] d : due) {
            x.due(d[1], "where", 7, d[0], 0);
        }
        x.due(5, "where", 8, 15, 0);
    }

    static void ofOneDayTheLastTold(Check check) {
        House x = check.house(0);
        x.given("line", 7, 10, 9);
        x.given("line", 7, 10, 1);
        x.due(1, "where", 7, 10, 0);
        x.given("line", 7, 5, 8);
        x.given("day", 3);
        x.given("line", 7, 10, 4);
        x.due(4, "where", 7, 10, 3);
        x.due(1, "where", 7, 10, 2);
        x.due(1, "where", 7, 10, 0);
        x.due(8, "where", 7, 9, 3);
    }

    static void thePlaceMayBe0Again(Check check) {
        House x = check.house(0);
        x.given("line", 7, 10, 9);
        x.given("line", 7, 20, 0);
        x.due(9, "where", 7, 19, 0);
        x.due(0, "where", 7, 20, 0);
        x.due(0, "where", 7, 100000, 0);
    }

    static void toldUpToTheDayThatItIsKnownOn(Check check) {
        House x = check.house(0);
        x.given("line", 1, 5, 11);
        x.given("day", 3);
        x.given("line", 1, 5, 22);
        x.given("line", 1, 2, 33);
        x.given("day", 4);
        x.given("line", 1, 6, 44);
        int[][] due = {{5, 0, 11}, {5, 2, 11}, {5, 3, 22}, {5, 7, 22}, {6, 2, 11}, {6, 6, 22}, {6, 7, 44}, {4, 2, 0},
            {4, 3, 33}, {2, 3, 33}, {1, 7, 0}, {100000, 0, 11}, {100000, 7, 44}, {0, 7, 0}};
        for (int[] d : due) {
            x.due(d[2], "where", 1, d[0], d[1]);
        }
    }

    static void theLastOfTwoHundredLines(Check check) {
        House x = check.house(0);
        for (int i = 0; i < 199; i++) {
            x.given("line", 1, 100000 - i, 1 + i % 98);
        }
        x.given("line", 1, 100000, 99);
        x.due(99, "where", 1, 100000, 0);
        x.due(2, "where", 1, 99999, 0);
        x.due(1 + 198 % 98, "where", 1, 100000 - 198, 0);
        x.due(0, "where", 1, 100000 - 199, 0);
    }

    static void aCallThatThrowsChangesNothing(Check check) {
        House x = check.house(0);
        x.given("day", 10);
        x.given("line", 1, 5, 3);
        x.refusesEach("where", new int[][] {{0, 5, 5}, {1001, 5, 5}, {1, -1, 5}, {1, 100001, 5}, {1, 5, -1},
            {1, 5, 11}, {House.MIN, House.MIN, House.MIN}, {House.MAX, House.MAX, House.MAX}});
        x.due(3, "where", 1, 5, 10);
        x.isAsWithoutOtherCalls();
    }
}
