/** Promise 25: count. */
public final class Promise25CountTest {
    public static void main(String[] args) {
        Check.run(Promise25CountTest.class);
    }

    static void eachKind(Check check) {
        House x = check.house(2);
        x.lays(1, 1, new int[] {0, 0}, new int[] {2, 0});
        x.lays(0, 1, new int[] {2, 0});
        x.given("tempo", 0, 4, 4);
        x.given("tempo", 0, 5, 4);
        x.given("tempo", 0, 6, 4);
        x.given("tempo", 1, 6, 4);
        for (int i = 0; i < 6; i++) {
            x.given("item", 3, 3);
        }
        for (int i = 0; i < 7; i++) {
            x.given("sight", 1, i, House.FAULTY);
        }
        for (int i = 0; i < 8; i++) {
            x.given("line", 1, 1, 1);
        }
        x.given("day", 9);
        int[][] due = {{0, 2}, {1, 6}, {2, 7}, {3, 8}, {4, 9}, {10, 1}, {11, 2}, {20, 3}, {21, 1}};
        for (int[] d : due) {
            x.due(d[1], "count", d[0]);
        }
    }

    static void nothingIsThereYet(Check check) {
        House x = check.house(0);
        for (int what = -40; what < 60; what++) {
            x.due(what >= 0 && what <= 4 ? 0 : -1, "count", what);
        }
    }

    static void othersAreRefused(Check check) {
        House x = check.house(6);
        for (int what = -40; what < 60; what++) {
            boolean kind = what >= 1 && what <= 4 || what >= 10 && what <= 15 || what >= 20 && what <= 25;
            x.due(what == 0 ? 6 : kind ? 0 : -1, "count", what);
        }
        x.refusesOutside(0, 25, 0, "count", 0);
    }

    static void rollsThatAreNotThereAreRefused(Check check) {
        House x = check.house(0);
        for (int r = 0; r < 6; r++) {
            x.refuses("count", 10 + r);
            x.refuses("count", 20 + r);
            x.given("roll");
            x.due(0, "count", 10 + r);
            x.due(0, "count", 20 + r);
        }
        x.refuses("count", 16);
        x.refuses("count", 26);
    }

    static void allPlacesTaken(Check check) {
        House x = check.house(6);
        for (int i = 0; i < 60; i++) {
            x.given("lay", 5, 7, 4 * i, 1);
        }
        for (int i = 0; i < 10; i++) {
            x.given("tempo", 5, i, 1);
        }
        for (int i = 0; i < 40; i++) {
            x.given("item", 7, i);
        }
        for (int i = 0; i < 180; i++) {
            x.given("sight", 1, 1, House.FAULTY);
            x.given("line", 1, 1, 1);
        }
        int[][] due = {{0, 6}, {1, 40}, {2, 180}, {3, 180}, {4, 0}, {10, 0}, {14, 0}, {15, 60}, {24, 0}, {25, 10}};
        for (int[] d : due) {
            x.due(d[1], "count", d[0]);
        }
    }

    static void twoHundredSightsAndLines(Check check) {
        House x = check.house(0);
        for (int i = 0; i < 201; i++) {
            x.due(i < 200 ? i + 1 : -1, "sight", 1, 1, House.FAULTY);
            x.due(i < 200 ? i + 1 : -1, "line", 1, 1, 1);
        }
        x.due(200, "count", 2);
        x.due(200, "count", 3);
    }

    static void whatIsTakenOffIsCountedNoMore(Check check) {
        House x = check.house(1);
        x.lays(0, 2, new int[] {3, 0}, new int[] {3, 9});
        x.given("item", 3, 0);
        x.given("lift", 0, 3, 9);
        x.due(1, "count", 10);
        x.given("lift", 0, 3, 0);
        x.due(0, "count", 10);
        x.given("clear");
        x.due(0, "count", 1);
    }

    static void askingChangesNothing(Check check) {
        House x = check.house(2);
        x.given("lay", 1, 3, 3, 3);
        x.given("tempo", 1, 3, 3);
        x.refuses("count", 12);
        x.refuses("count", 22);
        x.refuses("count", -1);
        x.refuses("count", 5);
        x.isAsWithoutOtherCalls();
    }
}
