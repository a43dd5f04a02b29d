/** Promise 13: item. */
public final class Promise13ItemTest {
    public static void main(String[] args) {
        Check.run(Promise13ItemTest.class);
    }

    static void itemsAreNumberedFrom0(Check check) {
        House x = check.house(0);
        for (int i = 0; i < 40; i++) {
            x.due(i, "count", 1);
            x.due(i, "item", i % 24, 5 * i);
        }
        x.due(40, "count", 1);
    }

    static void pitchesAre0To23(Check check) {
        House x = check.house(0);
        x.refusesOutside(0, 23, 0, "item", 0, 0);
        x.due(0, "count", 1);
        x.due(0, "item", 0, 0);
        x.due(1, "item", 23, 0);
    }

    static void stepsAre0To299(Check check) {
        House x = check.house(0);
        x.refusesOutside(0, 299, 1, "item", 0, 0);
        x.due(0, "count", 1);
        x.due(0, "item", 5, 0);
        x.due(1, "item", 5, 299);
        x.refusesOutside(0, 299, 1, "item", 5, 299);
    }

    static void aLesserStepThanTheOneAheadIsRefused(Check check) {
        House x = check.house(0);
        x.due(0, "item", 23, 5);
        x.refuses("item", 0, 4);
        x.refuses("item", 23, 0);
        x.due(1, "item", 0, 5);
        x.due(2, "item", 23, 299);
        x.refuses("item", 23, 298);
        x.due(3, "item", 0, 299);
        x.due(4, "count", 1);
    }

    static void theFirstMayHaveTheLastStep(Check check) {
        House x = check.house(0);
        x.due(0, "item", 5, 299);
        x.refuses("item", 5, 0);
        x.due(1, "item", 5, 299);
    }

    static void itIsTheOneAheadThatCountsAndNotARefusedOne(Check check) {
        House x = check.house(0);
        x.due(0, "item", 5, 10);
        x.refuses("item", 24, 200);
        x.refuses("item", 5, 9);
        x.due(1, "item", 5, 10);
        x.refuses("item", 5, 300);
        x.due(2, "item", 5, 11);
    }

    static void fortyAreThere(Check check) {
        House x = check.house(0);
        for (int i = 0; i < 40; i++) {
            x.due(i, "item", i % 24, 7);
        }
        x.refuses("item", 0, 7);
        x.refuses("item", 0, 299);
        x.due(40, "count", 1);
    }

    static void itemsMayBeAlike(Check check) {
        House x = check.house(1);
        x.due(0, "item", 5, 7);
        x.due(1, "item", 5, 7);
        x.due(10, "align", 0, 0);
    }

    static void aRefusedItemChangesNothing(Check check) {
        House x = check.house(1);
        x.given("lay", 0, 5, 10, 4);
        x.given("lay", 0, 9, 20, 4);
        x.given("item", 5, 10);
        x.given("item", 10, 21);
        x.refusesEach("item", new int[][] {{24, 25}, {-1, 25}, {9, 300}, {9, -1}, {9, 20}, {9, 0},
            {House.MAX, House.MAX}, {House.MIN, House.MIN}});
        x.isAsWithoutOtherCalls();
        x.due(2, "item", 3, 21);
    }

    static void aRefused41stChangesNothing(Check check) {
        House x = check.house(1);
        x.given("lay", 0, 5, 10, 4);
        x.given("lay", 0, 5, 250, 4);
        for (int i = 0; i < 40; i++) {
            x.given("item", 5, 10 + i);
        }
        x.refuses("item", 5, 250);
        x.refuses("item", 5, 299);
        x.isAsWithoutOtherCalls();
    }
}
