/** Promise 15: align, with the cost of an alignment. */
public final class Promise15AlignTest {
    public static void main(String[] args) {
        Check.run(Promise15AlignTest.class);
    }

    /** All six figures: cost, pairs, missed, extra, pairs whose pitches differ, whose steps do. */
    private static void figures(House x, int... want) {
        for (int what = 0; what < 6; what++) {
            x.due(want[what], "align", 0, what);
        }
    }

    /** One note, of pitch 10 from step 100 on, and one item. */
    private static House oneEach(Check check, int pitch, int step) {
        House x = check.house(1);
        x.given("lay", 0, 10, 100, 20);
        x.given("item", pitch, step);
        return x;
    }

    static void noSuchRoll(Check check) {
        House x = check.house(0);
        x.refuses("align", 0, 0);
        x.given("item", 5, 5);
        x.refuses("align", 0, 0);
        x.given("roll");
        for (int what = 0; what < 6; what++) {
            x.refusesOutside(0, 0, 0, "align", 0, what);
        }
    }

    static void noSuchWhat(Check check) {
        House x = oneEach(check, 10, 100);
        x.refusesOutside(0, 5, 1, "align", 0, 0);
        figures(x, 0, 1, 0, 0, 0, 0);
    }

    static void ofNothingAndNothing(Check check) {
        figures(check.house(1), 0, 0, 0, 0, 0, 0);
    }

    static void ofItemsAlone(Check check) {
        House x = check.house(1);
        x.given("item", 0, 0);
        x.given("item", 0, 9);
        figures(x, 10, 0, 2, 0, 0, 0);
    }

    static void ofNotesAlone(Check check) {
        House x = check.house(1);
        x.lays(0, 3, new int[] {3, 3}, new int[] {5, 3}, new int[] {7, 3});
        figures(x, 15, 0, 0, 3, 0, 0);
    }

    static void aPairCostsTwiceTheDifferenceOfPitches(Check check) {
        for (int apart = -5; apart <= 5; apart++) {
            figures(oneEach(check, 10 + apart, 100), 2 * Math.abs(apart), 1, 0, 0, apart == 0 ? 0 : 1, 0);
        }
    }

    static void andTheDifferenceOfStepsButAtMost4(Check check) {
        for (int apart = -7; apart <= 7; apart++) {
            int cost = Math.min(4, Math.abs(apart));
            figures(oneEach(check, 10, 100 + apart), cost, 1, 0, 0, 0, apart == 0 ? 0 : 1);
        }
        figures(oneEach(check, 10, 0), 4, 1, 0, 0, 0, 1);
        figures(oneEach(check, 10, 299), 4, 1, 0, 0, 0, 1);
    }

    static void aPairOf10ComesAheadOfBothAlone(Check check) {
        int[][] ten = {{15, 100}, {5, 100}, {14, 102}, {6, 98}, {13, 104}, {7, 96}, {13, 299}, {7, 0}};
        for (int[] t : ten) {
            figures(oneEach(check, t[0], t[1]), 10, 1, 0, 0, 1, t[1] == 100 ? 0 : 1);
        }
    }

    static void aPairOf11DoesNot(Check check) {
        int[][] eleven = {{15, 101}, {5, 99}, {14, 103}, {6, 97}, {16, 100}, {14, 299}, {6, 0}, {0, 100}, {23, 100}};
        for (int[] e : eleven) {
            figures(oneEach(check, e[0], e[1]), 10, 0, 1, 1, 0, 0);
        }
    }

    static void aPairOf9IsLessThanBothAlone(Check check) {
        figures(oneEach(check, 14, 101), 9, 1, 0, 0, 1, 1);
        figures(oneEach(check, 7, 97), 9, 1, 0, 0, 1, 1);
    }

    static void noTwoPairsCross(Check check) {
        House x = check.house(1);
        x.lays(0, 1, new int[] {2, 50}, new int[] {20, 50});
        x.given("item", 20, 50);
        x.given("item", 2, 50);
        figures(x, 10, 1, 1, 1, 0, 0);
    }

    static void eachIsInOnePairAtMost(Check check) {
        House x = check.house(1);
        x.given("lay", 0, 10, 50, 1);
        for (int i = 0; i < 3; i++) {
            x.given("item", 10, 50);
        }
        figures(x, 10, 1, 2, 0, 0, 0);
        House y = check.house(1);
        y.lays(0, 1, new int[] {9, 50}, new int[] {10, 50}, new int[] {11, 50});
        y.given("item", 10, 50);
        figures(y, 10, 1, 0, 2, 0, 0);
    }

    static void theLeastCostIsOfAllTogether(Check check) {
        // The pair of 11 and 11 would cost nothing, but leave two alone.
        House x = check.house(1);
        x.lays(0, 1, new int[] {10, 50}, new int[] {11, 50});
        x.given("item", 11, 50);
        x.given("item", 12, 50);
        figures(x, 2 + 2, 2, 0, 0, 2, 0);
        // Two pairs cost 4 and 7, one pair with two alone 5, 0 and 5.
        House y = check.house(1);
        y.lays(0, 1, new int[] {10, 50}, new int[] {12, 53});
        y.given("item", 8, 50);
        y.given("item", 10, 50);
        figures(y, 10, 1, 1, 1, 0, 0);
    }

    static void ofEqualCostTheFiguresAreThoseOfTheFirst(Check check) {
        // Two pairs cost 4 and 6, one pair with two alone 5, 0 and 5: a pair at the beginning is first.
        House x = check.house(1);
        x.lays(0, 1, new int[] {10, 50}, new int[] {12, 52});
        x.given("item", 8, 50);
        x.given("item", 10, 50);
        figures(x, 10, 2, 0, 0, 2, 1);
        // The pitch of one item differs, the step of the other: the pair of the first item is first.
        House y = check.house(1);
        y.given("lay", 0, 10, 50, 1);
        y.given("item", 9, 50);
        y.given("item", 10, 52);
        figures(y, 7, 1, 1, 0, 1, 0);
        House z = check.house(1);
        z.given("lay", 0, 10, 50, 1);
        z.given("item", 10, 48);
        z.given("item", 11, 50);
        figures(z, 7, 1, 1, 0, 0, 1);
    }

    static void manyKindsTogether(Check check) {
        House x = check.house(1);
        x.lays(0, 3, new int[] {5, 0}, new int[] {9, 10}, new int[] {12, 20}, new int[] {3, 30}, new int[] {20, 40},
                new int[] {7, 50});
        int[][] items = {{5, 0}, {10, 10}, {12, 22}, {19, 43}, {0, 45}, {23, 46}, {7, 50}};
        for (int[] it : items) {
            x.given("item", it[0], it[1]);
        }
        figures(x, 0 + 2 + 2 + 5 + 5 + 5 + 5 + 0, 5, 2, 1, 2, 2);
    }

    static void sixtyNotesAndFortyItemsAlone(Check check) {
        House x = check.house(1);
        for (int i = 0; i < 60; i++) {
            x.given("lay", 0, 0, 4 * i, 1);
        }
        for (int j = 0; j < 40; j++) {
            x.given("item", 23, 299);
        }
        figures(x, 500, 0, 40, 60, 0, 0);
    }

    static void sixtyNotesAndFortyItemsInPairs(Check check) {
        House x = check.house(1);
        for (int i = 0; i < 60; i++) {
            x.given("lay", 0, 12, 4 * i, 1);
        }
        for (int j = 0; j < 40; j++) {
            x.given("item", 12, 4 * (j + 20));
        }
        figures(x, 100, 40, 0, 20, 0, 0);
        x.given("clear");
        for (int j = 0; j < 40; j++) {
            x.given("item", j < 10 ? 12 : 23, j < 10 ? 4 * (j + 50) + 1 : 299);
        }
        figures(x, 10 + 50 * 5 + 30 * 5, 10, 30, 50, 0, 10);
    }

    static void aligningChangesNothing(Check check) {
        House x = oneEach(check, 12, 103);
        figures(x, 7, 1, 0, 0, 1, 1);
        x.refuses("align", 0, 6);
        x.refuses("align", 0, -1);
        x.refuses("align", 1, 0);
        x.isAsWithoutOtherCalls();
        figures(x, 7, 1, 0, 0, 1, 1);
    }
}
