/** Promise 9: pressure. */
public final class Promise09PressureTest {
    public static void main(String[] args) {
        Check.run(Promise09PressureTest.class);
    }

    private static void fromTick0(House x, int pedal, int... pressures) {
        for (int tick = 0; tick < pressures.length; tick++) {
            x.due(pressures[tick], "pressure", 0, pedal, tick);
        }
    }

    static void noSuchRoll(Check check) {
        House x = check.house(0);
        x.refuses("pressure", 0, 0, 0);
        x.given("roll");
        x.refusesOutside(0, 0, 0, "pressure", 0, 10, 0);
        x.due(50, "pressure", 0, 10, 0);
    }

    static void pedalsAre0To20(Check check) {
        House x = check.house(1);
        x.refusesOutside(0, 20, 1, "pressure", 0, 10, 0);
        x.refusesOutside(0, 20, 1, "pressure", 0, 10, 1);
        x.due(50, "pressure", 0, 0, 1);
        x.due(70, "pressure", 0, 20, 1);
    }

    static void ticksAreThoseOfAllSteps(Check check) {
        House x = check.house(1);
        x.refusesOutside(0, 599, 2, "pressure", 0, 10, 0);
        x.due(50, "pressure", 0, 0, 599);
        x.given("tempo", 0, 299, 9);
        x.due(50, "pressure", 0, 0, 606);
        x.refuses("pressure", 0, 0, 607);
        x.given("tempo", 0, 0, 1);
        x.due(50, "pressure", 0, 0, 307);
        x.refuses("pressure", 0, 0, 308);
    }

    static void itIs50AsTick0Begins(Check check) {
        House x = check.houseWithTen(9);
        x.given("roll");
        for (int pedal = 0; pedal <= 20; pedal++) {
            x.due(50, "pressure", 0, pedal, 0);
            x.due(50, "pressure", 1, pedal, 0);
        }
    }

    static void notAbove100(Check check) {
        House x = check.house(1);
        fromTick0(x, 20, 50, 70, 90, 100, 100);
        fromTick0(x, 7, 50, 57, 64, 71, 78, 85, 92, 99, 100, 100);
        x.due(99, "pressure", 0, 1, 49);
        x.due(100, "pressure", 0, 1, 50);
        x.due(100, "pressure", 0, 1, 51);
        x.due(100, "pressure", 0, 20, 599);
    }

    /** What the pedal gives and what sounds take are reckoned together, then held to 100. */
    static void notAbove100AfterBoth(Check check) {
        House x = check.house(1);
        x.lays(0, 1, new int[] {3, 30}, new int[] {9, 30}, new int[] {15, 30});
        x.due(100, "pressure", 0, 1, 60);
        x.due(98, "pressure", 0, 1, 61);
        x.due(96, "pressure", 0, 1, 62);
        x.due(97, "pressure", 0, 1, 63);
        x.due(100, "pressure", 0, 4, 61);
        x.due(100, "pressure", 0, 3, 61);
        x.due(99, "pressure", 0, 2, 61);
    }

    static void downTo0AndNotBelow(Check check) {
        House x = check.houseWithTen(9);
        fromTick0(x, 0, 50, 40, 30, 20, 10, 0, 0);
        // Nothing sounds with 5, 6 and 7; then ten sound where there are only 8 and 1.
        fromTick0(x, 1, 50, 41, 32, 23, 14, 5, 6, 7, 8, 0, 1, 2);
    }

    /** What the pedal gives and what sounds take are reckoned together, then held to 0. */
    static void notBelow0AfterBoth(Check check) {
        House x = check.houseWithTen(7);
        fromTick0(x, 3, 50, 43, 36, 29, 22, 15, 8, 1, 4, 7, 10);
    }

    static void oneForEachPitchThatSounds(Check check) {
        House x = check.house(1);
        x.given("tempo", 0, 0, 1);
        x.lays(0, 2, new int[] {0, 0}, new int[] {23, 1}, new int[] {11, 1});
        fromTick0(x, 0, 50, 49, 46, 44, 44);
    }

    static void bridgesTakeOneToo(Check check) {
        House x = check.house(1);
        x.given("tempo", 0, 0, 1);
        x.given("lay", 0, 5, 0, 9);
        x.due(43, "pressure", 0, 0, 7);
        x.due(42, "pressure", 0, 0, 8);
        x.due(41, "pressure", 0, 0, 9);
        x.due(41, "pressure", 0, 0, 10);
    }

    static void below8NothingIsTaken(Check check) {
        House x = check.house(1);
        x.given("tempo", 0, 0, 1);
        x.given("lay", 0, 6, 0, 60);
        x.due(8, "pressure", 0, 0, 42);
        x.due(7, "pressure", 0, 0, 43);
        x.due(7, "pressure", 0, 0, 44);
        x.due(7, "pressure", 0, 0, 299);
        x.due(50, "pressure", 0, 1, 60);
        x.due(51, "pressure", 0, 1, 61);
    }

    static void twentySoundAtOnce(Check check) {
        House x = check.house(1);
        x.laysTwenty();
        x.due(50, "pressure", 0, 10, 14);
        x.due(40, "pressure", 0, 10, 15);
        x.due(30, "pressure", 0, 10, 16);
        x.due(30, "pressure", 0, 10, 18);
        x.due(40, "pressure", 0, 10, 19);
        x.due(100, "pressure", 0, 20, 14);
        x.due(100, "pressure", 0, 20, 15);
        x.due(99, "pressure", 0, 19, 15);
    }

    static void playingChangesNothing(Check check) {
        House x = check.houseWithTen(9);
        x.due(40, "pressure", 0, 0, 1);
        x.due(100, "pressure", 0, 20, 200);
        x.refuses("pressure", 0, 0, 300);
        x.refuses("pressure", 0, 21, 0);
        x.refuses("pressure", 1, 0, 0);
        x.isAsWithoutOtherCalls();
        x.due(40, "pressure", 0, 0, 1);
    }
}
