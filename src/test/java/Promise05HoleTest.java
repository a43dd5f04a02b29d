/** Promise 5: hole, with the bridges of a note. */
public final class Promise05HoleTest {
    private static final int PUNCHED = 1;
    private static final int BRIDGE = 2;

    public static void main(String[] args) {
        Check.run(Promise05HoleTest.class);
    }

    static void bridgesOfTheLongest(Check check) {
        House x = check.house(1);
        x.given("lay", 0, 5, 100, 60);
        for (int k = 0; k < 60; k++) {
            boolean bridge = k == 7 || k == 15 || k == 23 || k == 31 || k == 39 || k == 47 || k == 55;
            x.due(bridge ? BRIDGE : PUNCHED, "hole", 0, 5, 100 + k);
        }
    }

    /** Of each length: the last step of all is punched, the one ahead of it may be a bridge. */
    static void theLastOfAllIsNeverABridge(Check check) {
        for (int length = 1; length <= 60; length++) {
            House x = check.house(1);
            x.given("lay", 0, 5, 0, length);
            x.due(PUNCHED, "hole", 0, 5, length - 1);
            if (length > 1) {
                x.due((length - 1) % 8 == 0 ? BRIDGE : PUNCHED, "hole", 0, 5, length - 2);
            }
            x.due(0, "hole", 0, 5, length);
        }
    }

    static void eightHaveNoBridgeAndNineHaveOne(Check check) {
        House x = check.house(1);
        x.given("lay", 0, 5, 0, 8);
        x.given("lay", 0, 9, 0, 9);
        x.due(PUNCHED, "hole", 0, 5, 7);
        x.due(PUNCHED, "hole", 0, 9, 6);
        x.due(BRIDGE, "hole", 0, 9, 7);
        x.due(PUNCHED, "hole", 0, 9, 8);
        x.due(0, "hole", 0, 9, 9);
    }

    static void sixteenHaveOneBridgeAndSeventeenTwo(Check check) {
        House x = check.house(1);
        x.given("lay", 0, 5, 0, 16);
        x.given("lay", 0, 9, 0, 17);
        x.due(BRIDGE, "hole", 0, 5, 7);
        x.due(PUNCHED, "hole", 0, 5, 15);
        x.due(BRIDGE, "hole", 0, 9, 7);
        x.due(BRIDGE, "hole", 0, 9, 15);
        x.due(PUNCHED, "hole", 0, 9, 16);
    }

    static void stepsAreCountedFromTheNotesFirst(Check check) {
        House x = check.house(1);
        x.given("lay", 0, 5, 3, 12);
        x.due(PUNCHED, "hole", 0, 5, 7);
        x.due(BRIDGE, "hole", 0, 5, 10);
        x.given("lay", 0, 6, 240, 60);
        x.due(BRIDGE, "hole", 0, 6, 295);
        x.due(PUNCHED, "hole", 0, 6, 299);
    }

    static void neitherAheadNorBehind(Check check) {
        House x = check.house(1);
        x.given("lay", 0, 5, 100, 10);
        x.due(0, "hole", 0, 5, 99);
        x.due(PUNCHED, "hole", 0, 5, 100);
        x.due(PUNCHED, "hole", 0, 5, 109);
        x.due(0, "hole", 0, 5, 110);
        x.due(0, "hole", 0, 4, 100);
        x.due(0, "hole", 0, 6, 107);
    }

    static void theCornersOfTheRoll(Check check) {
        House x = check.house(1);
        int[][] corners = {{0, 0}, {23, 0}, {0, 299}, {23, 299}};
        for (int[] c : corners) {
            x.due(0, "hole", 0, c[0], c[1]);
            x.due(1, "lay", 0, c[0], c[1], 1);
            x.due(PUNCHED, "hole", 0, c[0], c[1]);
        }
    }

    static void noSuchRoll(Check check) {
        House x = check.house(0);
        x.refuses("hole", 0, 0, 0);
        x.given("roll");
        x.given("lay", 0, 5, 5, 5);
        x.refusesOutside(0, 0, 0, "hole", 0, 5, 5);
    }

    static void noSuchPitch(Check check) {
        House x = check.house(1);
        x.lays(0, 5, new int[] {0, 5}, new int[] {23, 5});
        x.refusesOutside(0, 23, 1, "hole", 0, 0, 5);
    }

    static void noSuchStep(Check check) {
        House x = check.house(1);
        x.lays(0, 5, new int[] {5, 0}, new int[] {5, 295});
        x.refusesOutside(0, 299, 2, "hole", 0, 5, 0);
    }

    static void lookingChangesNothing(Check check) {
        House x = check.house(1);
        x.given("lay", 0, 5, 0, 9);
        x.due(BRIDGE, "hole", 0, 5, 7);
        x.refuses("hole", 1, 5, 7);
        x.refuses("hole", 0, 24, 7);
        x.refuses("hole", 0, 5, 300);
        x.isAsWithoutOtherCalls();
        x.due(BRIDGE, "hole", 0, 5, 7);
    }
}
