/** Promise 22: day. */
public final class Promise22DayTest {
    public static void main(String[] args) {
        Check.run(Promise22DayTest.class);
    }

    static void noDayGoesBy(Check check) {
        House x = check.house(0);
        x.due(0, "day", 0);
        x.given("day", 7);
        x.due(7, "day", 0);
        x.due(7, "count", 4);
    }

    static void theMostAtOnceIs1000(Check check) {
        House x = check.house(0);
        x.due(1000, "day", 1000);
        x.refuses("day", 1001);
        x.due(1000, "count", 4);
        x.due(2000, "day", 1000);
    }

    static void itNeverGoesBack(Check check) {
        House x = check.house(0);
        x.given("day", 500);
        x.refuses("day", -1);
        x.refuses("day", -500);
        x.due(500, "count", 4);
        x.due(501, "day", 1);
    }

    static void otherNumbersAreRefused(Check check) {
        House x = check.house(0);
        x.refusesOutside(0, 1000, 0, "day", 0);
        x.due(0, "count", 4);
    }

    static void itGoesOnBehindDay100000(Check check) {
        House x = check.house(0);
        for (int i = 1; i <= 100; i++) {
            x.due(1000 * i, "day", 1000);
        }
        x.due(100001, "day", 1);
        x.due(101001, "day", 1000);
        x.due(101001, "count", 4);
    }

    static void asFarAs512CallsCome(Check check) {
        House x = check.house(0);
        for (int i = 1; i <= 511; i++) {
            x.due(1000 * i, "day", 1000);
        }
        x.due(511000, "count", 4);
    }

    static void aRefusedDayChangesNothing(Check check) {
        House x = check.house(0);
        x.given("day", 5);
        x.given("line", 1, 5, 5);
        x.refuses("day", -1);
        x.refuses("day", 1001);
        x.refuses("day", House.MIN);
        x.refuses("day", House.MAX);
        x.isAsWithoutOtherCalls();
        x.refuses("where", 1, 5, 6);
    }
}
