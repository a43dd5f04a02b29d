/** Promise 2: roll. */
public final class Promise02RollTest {
    public static void main(String[] args) {
        Check.run(Promise02RollTest.class);
    }

    static void rollsAreNumberedAsTheyCome(Check check) {
        House x = check.house(0);
        for (int i = 0; i < 6; i++) {
            x.due(i, "count", 0);
            x.refuses("ticks", i);
            x.due(i, "roll");
            x.due(600, "ticks", i);
        }
        x.due(6, "count", 0);
    }

    static void aNewRollIsEmpty(Check check) {
        House x = check.house(6);
        for (int r = 0; r < 6; r++) {
            x.hasNotes(r);
            x.due(0, "count", 20 + r);
            x.due(600, "ticks", r);
            x.due(0, "hole", r, 0, 0);
            x.due(0, "hole", r, 23, 299);
            x.due(0, "silent", r, 0);
        }
    }

    static void aSeventhIsRefused(Check check) {
        House x = check.house(6);
        x.refuses("roll");
        x.refuses("roll");
        x.due(6, "count", 0);
        x.refuses("lay", 6, 0, 0, 1);
        x.refuses("ticks", 6);
    }

    static void aRefusedRollChangesNothing(Check check) {
        House x = check.house(6);
        x.given("lay", 0, 3, 0, 9);
        x.given("lay", 5, 4, 2, 1);
        x.given("tempo", 5, 3, 3);
        x.refuses("roll");
        x.refuses("roll");
        x.hasNotes(0, new int[] {3, 0, 9});
        x.hasNotes(5, new int[] {4, 2, 1});
        x.isAsWithoutOtherCalls();
    }

    static void eachOfSixIsARollOfItsOwn(Check check) {
        House x = check.house(6);
        for (int r = 0; r < 6; r++) {
            x.due(1, "lay", r, 7, 10 * r, r + 1);
            x.due(1, "tempo", r, 0, r + 1);
        }
        for (int r = 0; r < 6; r++) {
            x.hasNotes(r, new int[] {7, 10 * r, r + 1});
            x.due(300 * (r + 1), "ticks", r);
        }
    }
}
