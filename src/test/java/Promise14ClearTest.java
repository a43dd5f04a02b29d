/** Promise 14: clear. */
public final class Promise14ClearTest {
    public static void main(String[] args) {
        Check.run(Promise14ClearTest.class);
    }

    static void ofNothing(Check check) {
        House x = check.house(1);
        x.given("clear");
        x.due(0, "count", 1);
        x.given("clear");
        x.given("clear");
        x.due(0, "count", 1);
        x.due(0, "item", 4, 4);
    }

    static void ofForty(Check check) {
        House x = check.house(1);
        for (int i = 0; i < 40; i++) {
            x.given("item", 3, i);
        }
        x.given("clear");
        x.due(0, "count", 1);
        for (int i = 0; i < 40; i++) {
            x.due(i, "item", 4, i);
        }
        x.refuses("item", 4, 299);
    }

    static void theNextItemMayHaveAnyStep(Check check) {
        House x = check.house(1);
        x.given("item", 3, 299);
        x.given("clear");
        x.due(0, "item", 3, 0);
        x.refuses("paired", 0, 1);
    }

    static void allNotesAreExtra(Check check) {
        House x = check.house(1);
        x.lays(0, 2, new int[] {3, 0}, new int[] {3, 10});
        x.given("item", 4, 0);
        x.given("item", 4, 10);
        x.due(4, "align", 0, 0);
        x.given("clear");
        int[] figures = {10, 0, 0, 2, 0, 0};
        for (int what = 0; what < 6; what++) {
            x.due(figures[what], "align", 0, what);
        }
        x.refuses("paired", 0, 0);
        x.refuses("paired", 0, 1);
        x.due(0, "mend", 0);
        x.hasNotes(0, new int[] {3, 0, 2}, new int[] {3, 10, 2});
    }

    static void nothingElseGoes(Check check) {
        House x = check.house(2);
        x.given("lay", 0, 3, 0, 9);
        x.given("tempo", 1, 3, 3);
        x.given("item", 4, 0);
        x.given("sight", 7, 7, House.FAULTY);
        x.given("day", 4);
        x.given("line", 1, 2, 9);
        x.given("clear");
        int[] counts = {2, 0, 1, 1, 4};
        for (int what = 0; what < 5; what++) {
            x.due(counts[what], "count", what);
        }
        x.hasNotes(0, new int[] {3, 0, 9});
        x.due(6 + 297 * 3, "ticks", 1);
        x.due(7, "since", 7, 1);
        x.due(9, "where", 1, 2, 4);
    }
}
