/** Promise 6: note, with the order of notes. */
public final class Promise06NoteTest {
    public static void main(String[] args) {
        Check.run(Promise06NoteTest.class);
    }

    static void theLesserFirstStepFirstThenTheLesserPitch(Check check) {
        House x = check.house(1);
        int[][] laid = {{9, 50, 4}, {3, 50, 1}, {20, 0, 2}, {5, 299, 1}, {6, 50, 60}, {22, 49, 3}, {0, 51, 5}};
        for (int[] n : laid) {
            x.due(1, "lay", 0, n[0], n[1], n[2]);
        }
        x.hasNotes(0, new int[][] {{20, 0, 2}, {22, 49, 3}, {3, 50, 1}, {6, 50, 60}, {9, 50, 4}, {0, 51, 5},
            {5, 299, 1}});
    }

    static void theEndsOfTheOrder(Check check) {
        House x = check.house(1);
        x.lays(0, 1, new int[] {0, 299}, new int[] {23, 299}, new int[] {23, 0}, new int[] {0, 0});
        x.hasNotes(0, new int[][] {{0, 0, 1}, {23, 0, 1}, {0, 299, 1}, {23, 299, 1}});
    }

    static void lengthIsNoPartOfTheOrder(Check check) {
        House x = check.house(1);
        x.given("lay", 0, 4, 10, 60);
        x.given("lay", 0, 6, 10, 1);
        x.given("lay", 0, 2, 10, 30);
        x.hasNotes(0, new int[][] {{2, 10, 30}, {4, 10, 60}, {6, 10, 1}});
    }

    static void ofAnEmptyRollThereIsNone(Check check) {
        House x = check.house(1);
        for (int what = 0; what < 3; what++) {
            x.refuses("note", 0, 0, what);
            x.refuses("note", 0, -1, what);
        }
        x.given("lay", 0, 4, 10, 6);
        x.given("lift", 0, 4, 10);
        x.refuses("note", 0, 0, 0);
    }

    static void noSuchNote(Check check) {
        House x = check.house(1);
        x.lays(0, 2, new int[] {4, 10}, new int[] {5, 10}, new int[] {6, 10});
        for (int what = 0; what < 3; what++) {
            x.refusesOutside(0, 2, 1, "note", 0, 0, what);
        }
        x.due(6, "note", 0, 2, 0);
    }

    static void theLastOfSixty(Check check) {
        House x = check.house(1);
        for (int i = 59; i >= 0; i--) {
            x.given("lay", 0, 7, 5 * i, 1 + i % 4);
        }
        for (int i = 0; i < 60; i++) {
            x.due(5 * i, "note", 0, i, 1);
            x.due(1 + i % 4, "note", 0, i, 2);
        }
        for (int what = 0; what < 3; what++) {
            x.refusesOutside(0, 59, 1, "note", 0, 0, what);
        }
    }

    static void noSuchWhat(Check check) {
        House x = check.house(1);
        x.given("lay", 0, 4, 10, 6);
        x.refusesOutside(0, 2, 2, "note", 0, 0, 0);
        x.due(4, "note", 0, 0, 0);
        x.due(10, "note", 0, 0, 1);
        x.due(6, "note", 0, 0, 2);
    }

    static void noSuchRoll(Check check) {
        House x = check.house(2);
        x.given("lay", 0, 4, 10, 6);
        x.refusesOutside(0, 1, 0, "note", 0, 0, 0);
        x.refuses("note", 1, 0, 0);
    }

    static void lookingChangesNothing(Check check) {
        House x = check.house(1);
        x.lays(0, 2, new int[] {4, 10}, new int[] {5, 10});
        x.due(5, "note", 0, 1, 0);
        x.refusesEach("note", new int[][] {{1, 0, 0}, {0, 2, 0}, {0, -1, 0}, {0, 0, 3}, {0, 0, -1}});
        x.isAsWithoutOtherCalls();
    }
}
