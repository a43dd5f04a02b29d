/** Promise 19: since. */
public final class Promise19SinceTest {
    public static void main(String[] args) {
        Check.run(Promise19SinceTest.class);
    }

    private static void since(House x, int pitch, int least, int greatest) {
        x.due(least, "since", pitch, 0);
        x.due(greatest, "since", pitch, 1);
    }

    static void noSuchPitch(Check check) {
        House x = check.house(0);
        x.refusesOutside(0, 23, 0, "since", 0, 0);
        x.refusesOutside(0, 23, 0, "since", 0, 1);
        since(x, 0, 1, 1001);
        since(x, 23, 1, 1001);
    }

    static void noSuchWhat(Check check) {
        House x = check.house(0);
        x.refusesOutside(0, 1, 1, "since", 0, 0);
        x.given("sight", 10, 0, House.FAULTY);
        x.refusesOutside(0, 1, 1, "since", 0, 0);
    }

    static void withoutSightsItMayBeAnyOrNotWorn(Check check) {
        House x = check.house(0);
        for (int pitch = 0; pitch < 24; pitch++) {
            since(x, pitch, 1, 1001);
        }
    }

    static void theFirstCopyFaulty(Check check) {
        House x = check.house(0);
        x.given("sight", 1, 4, House.FAULTY);
        since(x, 4, 1, 1);
    }

    static void theFirstCopyWhole(Check check) {
        House x = check.house(0);
        x.given("sight", 1, 4, House.WHOLE);
        since(x, 4, 2, 1001);
    }

    static void theLastCopyFaulty(Check check) {
        House x = check.house(0);
        x.given("sight", 1000, 4, House.FAULTY);
        since(x, 4, 1, 1000);
    }

    static void theLastCopyWhole(Check check) {
        House x = check.house(0);
        x.given("sight", 1000, 4, House.WHOLE);
        since(x, 4, 1001, 1001);
    }

    static void theLeastOfThoseFaultyAndTheGreatestOfThoseWhole(Check check) {
        House x = check.house(0);
        x.given("sight", 500, 7, House.FAULTY);
        since(x, 7, 1, 500);
        x.given("sight", 600, 7, House.FAULTY);
        since(x, 7, 1, 500);
        x.given("sight", 400, 7, House.FAULTY);
        since(x, 7, 1, 400);
        x.given("sight", 100, 7, House.WHOLE);
        since(x, 7, 101, 400);
        x.given("sight", 50, 7, House.WHOLE);
        since(x, 7, 101, 400);
        x.given("sight", 300, 7, House.WHOLE);
        since(x, 7, 301, 400);
    }

    static void oneIsLeft(Check check) {
        House x = check.house(0);
        x.given("sight", 10, 7, House.FAULTY);
        x.given("sight", 9, 7, House.WHOLE);
        since(x, 7, 10, 10);
    }

    static void noneIsLeft(Check check) {
        House x = check.house(0);
        x.given("sight", 10, 7, House.FAULTY);
        x.given("sight", 10, 7, House.WHOLE);
        since(x, 7, -1, -1);
        x.given("sight", 20, 8, House.FAULTY);
        x.given("sight", 30, 8, House.WHOLE);
        since(x, 8, -1, -1);
        x.given("sight", 1000, 9, House.WHOLE);
        x.given("sight", 1000, 9, House.FAULTY);
        since(x, 9, -1, -1);
        x.given("sight", 1, 10, House.WHOLE);
        x.given("sight", 1, 10, House.FAULTY);
        since(x, 10, -1, -1);
    }

    static void noneStaysNone(Check check) {
        House x = check.house(0);
        x.given("sight", 10, 7, House.FAULTY);
        x.given("sight", 10, 7, House.WHOLE);
        x.given("sight", 5, 7, House.WHOLE);
        x.given("sight", 500, 7, House.FAULTY);
        since(x, 7, -1, -1);
    }

    static void otherPitchesAreNotTouched(Check check) {
        House x = check.house(0);
        x.given("sight", 10, 7, House.FAULTY);
        x.given("sight", 5, 7, House.WHOLE);
        x.given("sight", 300, 9, House.FAULTY);
        x.given("sight", 300, 9, House.WHOLE);
        since(x, 6, 1, 1001);
        since(x, 7, 6, 10);
        since(x, 8, 1, 1001);
        since(x, 9, -1, -1);
        since(x, 10, 1, 1001);
    }

    static void askingChangesNothing(Check check) {
        House x = check.house(0);
        x.given("sight", 10, 7, House.FAULTY);
        since(x, 7, 1, 10);
        x.refuses("since", 24, 0);
        x.refuses("since", -1, 1);
        x.refuses("since", 7, 2);
        x.isAsWithoutOtherCalls();
    }
}
