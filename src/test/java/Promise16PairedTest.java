/** Promise 16: paired, with the choice among alignments of one cost. */
public final class Promise16PairedTest {
    public static void main(String[] args) {
        Check.run(Promise16PairedTest.class);
    }

    private static void pairs(House x, int... notes) {
        for (int i = 0; i < notes.length; i++) {
            x.due(notes[i], "paired", 0, i);
        }
        x.refuses("paired", 0, notes.length);
    }

    static void noSuchRoll(Check check) {
        House x = check.house(0);
        x.given("item", 5, 5);
        x.refuses("paired", 0, 0);
        x.given("roll");
        x.given("roll");
        x.given("lay", 0, 5, 5, 5);
        x.refusesOutside(0, 1, 0, "paired", 0, 0);
        x.refuses("paired", 1, 0);
        x.due(0, "paired", 0, 0);
    }

    static void noSuchItem(Check check) {
        House x = check.house(1);
        x.lays(0, 5, new int[] {5, 5}, new int[] {6, 5}, new int[] {7, 5});
        x.refuses("paired", 0, 0);
        x.given("item", 5, 5);
        x.given("item", 6, 5);
        x.refusesOutside(0, 1, 1, "paired", 0, 0);
        pairs(x, 0, 1);
        x.given("clear");
        x.refuses("paired", 0, 0);
        x.refuses("paired", 0, 1);
    }

    static void anItemMissed(Check check) {
        House x = check.house(1);
        x.given("item", 5, 5);
        pairs(x, -1);
        x.given("lay", 0, 20, 5, 5);
        pairs(x, -1);
        x.given("lay", 0, 6, 5, 5);
        pairs(x, 0);
    }

    static void theNotesPlaceIsThatInOrder(Check check) {
        House x = check.house(1);
        x.given("lay", 0, 5, 50, 5);
        x.given("item", 5, 50);
        pairs(x, 0);
        x.given("lay", 0, 20, 0, 5);
        pairs(x, 1);
        x.given("lay", 0, 0, 50, 5);
        pairs(x, 2);
        x.given("lay", 0, 20, 50, 5);
        pairs(x, 2);
        x.given("lift", 0, 20, 0);
        pairs(x, 1);
    }

    static void theLastOfFortyWithTheLastOfSixty(Check check) {
        House x = check.house(1);
        for (int i = 0; i < 60; i++) {
            x.given("lay", 0, 12, 4 * i, 1);
        }
        for (int j = 0; j < 40; j++) {
            x.given("item", 12, 4 * (j + 20));
        }
        for (int j = 0; j < 40; j++) {
            x.due(20 + j, "paired", 0, j);
        }
        x.refuses("paired", 0, 40);
    }

    static void allOfFortyMissedAtTheEnd(Check check) {
        House x = check.house(1);
        x.given("lay", 0, 12, 100, 1);
        x.given("item", 12, 100);
        for (int j = 1; j < 40; j++) {
            x.given("item", 12, 299);
        }
        x.due(0, "paired", 0, 0);
        for (int j = 1; j < 40; j++) {
            x.due(-1, "paired", 0, j);
        }
    }

    static void aPairComesAheadOfAnItemMissed(Check check) {
        // Two items fit one note alike.
        House x = check.house(1);
        x.given("lay", 0, 10, 50, 1);
        x.given("item", 9, 50);
        x.given("item", 11, 50);
        pairs(x, 0, -1);
    }

    static void aPairComesAheadOfANoteExtra(Check check) {
        // Two notes fit one item alike.
        House x = check.house(1);
        x.lays(0, 1, new int[] {9, 50}, new int[] {11, 50});
        x.given("item", 10, 50);
        pairs(x, 0);
    }

    static void anItemMissedComesAheadOfANoteExtra(Check check) {
        House x = check.house(1);
        x.lays(0, 1, new int[] {2, 50}, new int[] {20, 50});
        x.given("item", 20, 50);
        x.given("item", 2, 50);
        pairs(x, -1, 0);
    }

    static void aPairOf10ComesAheadOfBothAlone(Check check) {
        House x = check.house(1);
        x.given("lay", 0, 10, 50, 1);
        x.given("item", 15, 50);
        pairs(x, 0);
        House y = check.house(1);
        y.given("lay", 0, 10, 50, 1);
        y.given("item", 15, 51);
        pairs(y, -1);
    }

    /** The first difference decides, whatever comes behind it. */
    static void theyAreComparedFromTheBeginningOn(Check check) {
        // 10 and 0, or 5, 0 and 5: the pair of 10 at the beginning comes first.
        House x = check.house(1);
        x.lays(0, 1, new int[] {10, 50}, new int[] {15, 50});
        x.given("item", 15, 50);
        x.given("item", 15, 50);
        pairs(x, 0, 1);
        // Two of three notes, each as good as the other: the first two.
        House y = check.house(1);
        y.lays(0, 1, new int[] {10, 50}, new int[] {10, 60}, new int[] {10, 70});
        y.given("item", 10, 20);
        y.given("item", 10, 120);
        pairs(y, 0, 1);
        // Two of three items, each as good as the other: the first two.
        House z = check.house(1);
        z.lays(0, 1, new int[] {10, 50}, new int[] {10, 60});
        z.given("item", 10, 100);
        z.given("item", 10, 110);
        z.given("item", 10, 120);
        pairs(z, 0, 1, -1);
    }

    static void theLeastCostComesAheadOfTheOrder(Check check) {
        House x = check.house(1);
        x.lays(0, 1, new int[] {9, 50}, new int[] {10, 50});
        x.given("item", 10, 50);
        pairs(x, 1);
        House y = check.house(1);
        y.given("lay", 0, 10, 50, 1);
        y.given("item", 9, 50);
        y.given("item", 10, 50);
        pairs(y, -1, 0);
    }

    static void askingChangesNothing(Check check) {
        House x = check.house(1);
        x.lays(0, 1, new int[] {9, 50}, new int[] {10, 50});
        x.given("item", 11, 50);
        x.due(1, "paired", 0, 0);
        x.refuses("paired", 0, 1);
        x.refuses("paired", 0, -1);
        x.refuses("paired", 1, 0);
        x.isAsWithoutOtherCalls();
        x.due(1, "paired", 0, 0);
    }
}
