/** Promise 21: line. */
public final class Promise21LineTest {
    public static void main(String[] args) {
        Check.run(Promise21LineTest.class);
    }

    static void copiesAre1To1000(Check check) {
        House x = check.house(0);
        x.refusesOutside(1, 1000, 0, "line", 1, 5, 5);
        x.due(0, "count", 3);
        x.due(1, "line", 1, 5, 5);
        x.due(2, "line", 1000, 5, 6);
        x.due(5, "where", 1, 5, 0);
        x.due(6, "where", 1000, 5, 0);
        x.due(0, "where", 2, 5, 0);
    }

    static void daysAre0To100000(Check check) {
        House x = check.house(0);
        x.refusesOutside(0, 100000, 1, "line", 1, 0, 5);
        x.due(0, "count", 3);
        x.due(1, "line", 1, 100000, 5);
        x.due(2, "line", 1, 0, 6);
        x.due(6, "where", 1, 0, 0);
        x.due(6, "where", 1, 99999, 0);
        x.due(5, "where", 1, 100000, 0);
    }

    static void placesAre0To99(Check check) {
        House x = check.house(0);
        x.refusesOutside(0, 99, 2, "line", 1, 5, 0);
        x.due(0, "count", 3);
        x.due(1, "line", 1, 5, 99);
        x.due(99, "where", 1, 5, 0);
        x.due(2, "line", 1, 5, 0);
        x.due(0, "where", 1, 5, 0);
    }

    static void twoHundredAreThere(Check check) {
        House x = check.house(0);
        for (int i = 1; i <= 200; i++) {
            x.due(i, "line", i * 5, 4, 6);
        }
        x.refuses("line", 1, 4, 6);
        x.refuses("line", 1000, 4, 7);
        x.due(200, "count", 3);
        x.due(6, "where", 1000, 4, 0);
    }

    static void linesMayBeAlike(Check check) {
        House x = check.house(0);
        x.due(1, "line", 1, 5, 7);
        x.due(2, "line", 1, 5, 7);
        x.due(1, "there", 7, 5, 0);
    }

    static void theDayOfALineMayBeAheadOfOrBehindTheDayAtHand(Check check) {
        House x = check.house(0);
        x.given("day", 50);
        x.due(1, "line", 1, 10, 7);
        x.due(2, "line", 1, 90, 8);
        x.due(7, "where", 1, 10, 50);
        x.due(8, "where", 1, 90, 50);
        x.due(0, "where", 1, 90, 49);
    }

    static void toldBehindDay100000(Check check) {
        House x = check.house(0);
        for (int i = 0; i < 101; i++) {
            x.given("day", 1000);
        }
        x.due(1, "line", 1, 5, 7);
        x.refuses("line", 1, 101000, 7);
        x.due(1, "count", 3);
        x.due(0, "where", 1, 5, 100000);
    }

    static void aRefusedLineChangesNothing(Check check) {
        House x = check.house(0);
        x.given("line", 1, 3, 9);
        x.given("day", 7);
        x.given("line", 1000, 4, 8);
        x.refusesEach("line", new int[][] {{0, 5, 5}, {1001, 5, 5}, {1, -1, 5}, {1, 100001, 5}, {1, 5, -1},
            {1, 5, 100}, {House.MAX, 5, 5}, {1000, House.MIN, 5}, {2, 5, House.MAX}});
        x.isAsWithoutOtherCalls();
    }

    static void aRefused201stChangesNothing(Check check) {
        House x = check.house(0);
        for (int i = 1; i <= 200; i++) {
            x.given("line", 1 + i % 2, 4, 1 + i % 99);
        }
        x.refuses("line", 1, 5, 98);
        x.refuses("line", 2, 0, 98);
        x.refuses("line", 1000, 0, 98);
        x.isAsWithoutOtherCalls();
    }
}
