/** Promise 8: sounds. */
public final class Promise08SoundsTest {
    public static void main(String[] args) {
        Check.run(Promise08SoundsTest.class);
    }

    static void noSuchRoll(Check check) {
        House x = check.house(0);
        x.refuses("sounds", 0, 0, 0);
        x.given("roll");
        x.given("lay", 0, 5, 0, 9);
        x.refusesOutside(0, 0, 0, "sounds", 0, 10, 0);
        x.due(32, "sounds", 0, 10, 0);
    }

    static void pedalsAre0To20(Check check) {
        House x = check.house(1);
        x.given("lay", 0, 5, 0, 9);
        x.refusesOutside(0, 20, 1, "sounds", 0, 10, 0);
        x.due(32, "sounds", 0, 0, 0);
        x.due(32, "sounds", 0, 20, 0);
    }

    static void ticksAreThoseOfAllSteps(Check check) {
        House x = check.house(1);
        x.given("lay", 0, 5, 299, 1);
        x.refusesOutside(0, 599, 2, "sounds", 0, 10, 0);
        x.due(0, "sounds", 0, 10, 0);
        x.due(0, "sounds", 0, 10, 597);
        x.due(32, "sounds", 0, 10, 598);
        x.due(32, "sounds", 0, 10, 599);
    }

    static void theLastTickMovesWithTheTempo(Check check) {
        House x = check.house(1);
        x.given("lay", 0, 5, 299, 1);
        x.given("tempo", 0, 0, 9);
        x.due(0, "sounds", 0, 10, 2690);
        x.due(32, "sounds", 0, 10, 2691);
        x.due(32, "sounds", 0, 10, 2699);
        x.refuses("sounds", 0, 10, 2700);
        x.given("tempo", 0, 0, 1);
        x.due(0, "sounds", 0, 10, 298);
        x.due(32, "sounds", 0, 10, 299);
        x.refuses("sounds", 0, 10, 300);
    }

    static void eachStepHasAsManyTicksAsItsTempo(Check check) {
        House x = check.house(1);
        x.given("tempo", 0, 3, 9);
        x.given("tempo", 0, 5, 1);
        x.lays(0, 1, new int[] {1, 3}, new int[] {2, 4}, new int[] {3, 5}, new int[] {4, 299});
        int[][] due = {{5, 0}, {6, 2}, {14, 2}, {15, 4}, {23, 4}, {24, 8}, {25, 0}, {317, 0}, {318, 16}};
        for (int[] d : due) {
            x.due(d[1], "sounds", 0, 0, d[0]);
        }
        x.refuses("sounds", 0, 0, 319);
    }

    static void with8ItSoundsAndWith7Not(Check check) {
        House x = check.house(1);
        x.given("tempo", 0, 0, 1);
        x.given("lay", 0, 6, 0, 60);
        x.due(8, "pressure", 0, 0, 42);
        x.due(64, "sounds", 0, 0, 42);
        x.due(7, "pressure", 0, 0, 43);
        x.due(0, "sounds", 0, 0, 43);
        x.due(0, "sounds", 0, 0, 59);
        x.due(64, "sounds", 0, 1, 59);
    }

    static void itSoundsAgainFrom8On(Check check) {
        House x = check.house(1);
        x.given("tempo", 0, 0, 1);
        x.lays(0, 60, new int[] {6, 0}, new int[] {10, 0}, new int[] {15, 0});
        int all = 1 << 6 | 1 << 10 | 1 << 15;
        x.due(8, "pressure", 0, 1, 21);
        x.due(all, "sounds", 0, 1, 21);
        x.due(6, "pressure", 0, 1, 22);
        x.due(0, "sounds", 0, 1, 22);
        x.due(7, "pressure", 0, 1, 23);
        x.due(0, "sounds", 0, 1, 23);
        x.due(8, "pressure", 0, 1, 24);
        x.due(all, "sounds", 0, 1, 24);
        x.due(0, "sounds", 0, 1, 25);
    }

    static void nothingSoundsWithoutNotes(Check check) {
        House x = check.house(1);
        x.due(0, "sounds", 0, 0, 0);
        x.due(0, "sounds", 0, 20, 599);
        x.given("tempo", 0, 0, 1);
        x.given("lay", 0, 6, 10, 9);
        x.due(0, "sounds", 0, 20, 9);
        x.due(64, "sounds", 0, 20, 10);
        x.due(64, "sounds", 0, 20, 18);
        x.due(0, "sounds", 0, 20, 19);
    }

    static void theLowestAndTheHighestPitch(Check check) {
        House x = check.house(1);
        x.lays(0, 1, new int[] {0, 0}, new int[] {23, 0});
        x.due((1 << 23) + 1, "sounds", 0, 0, 0);
    }

    static void bridgesSoundToo(Check check) {
        House x = check.house(1);
        x.given("tempo", 0, 0, 1);
        x.given("lay", 0, 23, 10, 16);
        x.due(2, "hole", 0, 23, 17);
        x.due(1 << 23, "sounds", 0, 5, 17);
        x.due(1 << 23, "sounds", 0, 5, 25);
        x.due(0, "sounds", 0, 5, 26);
    }

    /** Ten bridges and ten that are punched in one step: all twenty sound. */
    static void moreThanTenSound(Check check) {
        House x = check.house(1);
        x.laysTwenty();
        int ahead = 0x33333;
        x.due(ahead, "sounds", 0, 10, 13);
        x.due((1 << 20) - 1, "sounds", 0, 10, 14);
        x.due((1 << 20) - 1, "sounds", 0, 10, 15);
        x.due(ahead, "sounds", 0, 10, 16);
    }

    static void playingChangesNothing(Check check) {
        House x = check.house(1);
        x.given("lay", 0, 5, 0, 20);
        x.given("tempo", 0, 3, 4);
        x.due(32, "sounds", 0, 0, 5);
        x.due(0, "sounds", 0, 20, 500);
        x.refuses("sounds", 0, 0, 5000);
        x.refuses("sounds", 0, 21, 0);
        x.refuses("sounds", 1, 0, 0);
        x.isAsWithoutOtherCalls();
        x.due(32, "sounds", 0, 0, 5);
    }
}
