/** Promise 17: mend. */
public final class Promise17MendTest {
    public static void main(String[] args) {
        Check.run(Promise17MendTest.class);
    }

    static void noSuchRoll(Check check) {
        House x = check.house(0);
        x.refuses("mend", 0);
        x.given("roll");
        x.given("lay", 0, 5, 0, 1);
        x.given("item", 6, 0);
        x.refusesOutside(0, 0, 0, "mend", 0);
        x.hasNotes(0, new int[] {5, 0, 1});
    }

    static void aRefusedMendChangesNothing(Check check) {
        House x = check.house(1);
        x.given("lay", 0, 5, 0, 1);
        x.given("item", 6, 0);
        x.refuses("mend", 1);
        x.refuses("mend", -1);
        x.refuses("mend", House.MAX);
        x.isAsWithoutOtherCalls();
    }

    static void anEmptyRoll(Check check) {
        House x = check.house(1);
        x.due(0, "mend", 0);
        x.given("item", 6, 0);
        x.due(0, "mend", 0);
        x.hasNotes(0);
    }

    static void anEmptyScore(Check check) {
        House x = check.house(1);
        x.given("lay", 0, 5, 0, 20);
        x.due(0, "mend", 0);
        x.hasNotes(0, new int[] {5, 0, 20});
    }

    static void pitchesThatDoNotDifferStay(Check check) {
        House x = check.house(1);
        x.given("lay", 0, 5, 0, 20);
        x.given("item", 5, 299);
        x.due(1, "align", 0, 1);
        x.due(0, "mend", 0);
        x.hasNotes(0, new int[] {5, 0, 20});
    }

    static void notesExtraStay(Check check) {
        House x = check.house(1);
        x.lays(0, 2, new int[] {5, 0}, new int[] {20, 0});
        x.given("item", 4, 0);
        x.due(1, "mend", 0);
        x.hasNotes(0, new int[] {4, 0, 2}, new int[] {20, 0, 2});
    }

    static void aPairOf10IsMendedAndOneOf11IsNone(Check check) {
        House x = check.house(1);
        x.given("lay", 0, 5, 0, 2);
        x.given("item", 10, 0);
        x.due(1, "mend", 0);
        x.hasNotes(0, new int[] {10, 0, 2});
        House y = check.house(1);
        y.given("lay", 0, 5, 0, 2);
        y.given("item", 10, 1);
        y.due(0, "mend", 0);
        y.hasNotes(0, new int[] {5, 0, 2});
    }

    static void toTheLowestAndTheHighestPitch(Check check) {
        House x = check.house(1);
        x.lays(0, 9, new int[] {4, 0}, new int[] {19, 291});
        x.given("item", 0, 0);
        x.given("item", 23, 291);
        x.due(2, "mend", 0);
        x.hasNotes(0, new int[] {0, 0, 9}, new int[] {23, 291, 9});
        x.due(2, "hole", 0, 23, 298);
        x.due(1, "hole", 0, 23, 299);
    }

    static void itsStepsStayAsTheyAre(Check check) {
        House x = check.house(1);
        x.given("lay", 0, 5, 0, 20);
        x.given("lay", 0, 9, 30, 4);
        x.given("lay", 0, 12, 40, 1);
        x.given("item", 7, 1);
        x.given("item", 9, 33);
        x.given("item", 11, 40);
        x.due(2, "mend", 0);
        x.hasNotes(0, new int[] {7, 0, 20}, new int[] {9, 30, 4}, new int[] {11, 40, 1});
        x.due(0, "hole", 0, 5, 0);
        x.due(0, "hole", 0, 5, 7);
        x.due(2, "hole", 0, 7, 7);
        x.due(1, "hole", 0, 7, 19);
        x.due(0, "mend", 0);
    }

    static void tooNearItIsLaidAsItWas(Check check) {
        House x = check.house(1);
        x.given("lay", 0, 5, 10, 9);
        x.given("lay", 0, 7, 19, 4);
        x.given("item", 7, 10);
        x.given("item", 7, 19);
        x.due(0, "mend", 0);
        x.hasNotes(0, new int[] {5, 10, 9}, new int[] {7, 19, 4});
        x.due(2, "hole", 0, 5, 17);
        x.due(0, "hole", 0, 7, 10);
        x.due(0, "hole", 0, 7, 18);
    }

    static void oneStepBetweenIsEnough(Check check) {
        House x = check.house(1);
        x.given("lay", 0, 5, 10, 9);
        x.given("lay", 0, 7, 20, 4);
        x.given("item", 7, 10);
        x.given("item", 7, 20);
        x.due(1, "mend", 0);
        x.hasNotes(0, new int[] {7, 10, 9}, new int[] {7, 20, 4});
    }

    static void notBorneItIsLaidAsItWas(Check check) {
        House x = check.house(1);
        x.lays(0, 2, new int[] {13, 0}, new int[] {14, 0}, new int[] {15, 0}, new int[] {17, 1});
        x.given("item", 13, 0);
        x.given("item", 14, 0);
        x.given("item", 15, 0);
        x.given("item", 16, 1);
        x.due(0, "mend", 0);
        x.hasNotes(0, new int[] {13, 0, 2}, new int[] {14, 0, 2}, new int[] {15, 0, 2}, new int[] {17, 1, 2});
        x.due(0, "hole", 0, 16, 1);
        x.due(1, "hole", 0, 17, 2);
    }

    static void itIsTakenOffFirst(Check check) {
        // Beside 14 and 15 there is place for 16, once 13 itself is taken off.
        House x = check.house(1);
        x.lays(0, 2, new int[] {13, 0}, new int[] {14, 0}, new int[] {15, 0});
        x.given("item", 16, 0);
        x.given("item", 14, 0);
        x.given("item", 15, 0);
        x.due(1, "mend", 0);
        x.hasNotes(0, new int[] {14, 0, 2}, new int[] {15, 0, 2}, new int[] {16, 0, 2});
    }

    static void ofTenInAStepEachMayMove(Check check) {
        House x = check.house(1);
        x.laysTen(0, 1);
        x.given("item", 13, 0);
        x.due(1, "mend", 0);
        x.due(13, "note", 0, 9, 0);
        x.due(10, "count", 10);
    }

    static void ofSixtyEachMayMove(Check check) {
        House x = check.house(1);
        for (int i = 0; i < 60; i++) {
            x.given("lay", 0, 4, 5 * i, 4);
        }
        for (int j = 0; j < 40; j++) {
            x.given("item", 5, 5 * (j + 20));
        }
        x.due(40, "mend", 0);
        x.due(60, "count", 10);
        for (int i = 0; i < 60; i++) {
            x.due(i < 20 ? 4 : 5, "note", 0, i, 0);
            x.due(4, "note", 0, i, 2);
        }
        x.due(0, "mend", 0);
    }

    static void theAlignmentIsThatAheadOfIt(Check check) {
        // The first note comes behind the second one in order as it is mended.
        House x = check.house(1);
        x.given("lay", 0, 5, 10, 3);
        x.given("lay", 0, 6, 10, 4);
        x.given("item", 8, 10);
        x.given("item", 7, 10);
        x.due(2, "align", 0, 1);
        x.due(2, "mend", 0);
        x.hasNotes(0, new int[] {7, 10, 4}, new int[] {8, 10, 3});
    }

    static void pairByPairInOrder(Check check) {
        // The first finds its place taken still; the second leaves it then.
        House x = check.house(1);
        x.given("lay", 0, 5, 10, 3);
        x.given("lay", 0, 6, 12, 4);
        x.given("item", 6, 10);
        x.given("item", 7, 12);
        x.due(1, "mend", 0);
        x.hasNotes(0, new int[] {5, 10, 3}, new int[] {7, 12, 4});
        x.due(1, "mend", 0);
        x.hasNotes(0, new int[] {6, 10, 3}, new int[] {7, 12, 4});
        // The first leaves the place that the second takes.
        House y = check.house(1);
        y.given("lay", 0, 5, 10, 3);
        y.given("lay", 0, 6, 10, 4);
        y.given("item", 4, 10);
        y.given("item", 5, 10);
        y.due(2, "mend", 0);
        y.hasNotes(0, new int[] {4, 10, 3}, new int[] {5, 10, 4});
    }

    static void otherRollsAndTheScoreStay(Check check) {
        House x = check.house(2);
        x.given("lay", 0, 5, 0, 1);
        x.given("lay", 1, 5, 0, 1);
        x.given("tempo", 0, 4, 4);
        x.given("item", 6, 0);
        x.due(1, "mend", 0);
        x.hasNotes(0, new int[] {6, 0, 1});
        x.hasNotes(1, new int[] {5, 0, 1});
        x.due(1, "count", 1);
        x.due(8 + 296 * 4, "ticks", 0);
        x.due(0, "align", 0, 0);
        x.due(2, "align", 1, 0);
    }
}
