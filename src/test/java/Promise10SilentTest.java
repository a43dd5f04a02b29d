/** Promise 10: silent. */
public final class Promise10SilentTest {
    public static void main(String[] args) {
        Check.run(Promise10SilentTest.class);
    }

    static void noSuchRoll(Check check) {
        House x = check.house(0);
        x.refuses("silent", 0, 0);
        x.given("roll");
        x.refusesOutside(0, 0, 0, "silent", 0, 10);
        x.due(0, "silent", 0, 10);
    }

    static void pedalsAre0To20(Check check) {
        House x = check.houseWithTen(9);
        x.refusesOutside(0, 20, 1, "silent", 0, 10);
        x.due(4, "silent", 0, 0);
        x.due(0, "silent", 0, 20);
    }

    static void anEmptyRollIsNotSilent(Check check) {
        House x = check.house(1);
        x.due(0, "silent", 0, 0);
        x.due(0, "silent", 0, 20);
    }

    static void with8ItIsNotSilentAndWith7ItIs(Check check) {
        House x = check.house(1);
        x.given("tempo", 0, 0, 1);
        x.given("lay", 0, 6, 0, 43);
        x.due(0, "silent", 0, 0);
        x.given("lift", 0, 6, 0);
        x.given("lay", 0, 6, 0, 44);
        x.due(1, "silent", 0, 0);
        x.given("lift", 0, 6, 0);
        x.given("lay", 0, 6, 0, 60);
        x.due(17, "silent", 0, 0);
        x.due(0, "silent", 0, 1);
    }

    static void ticksWithoutNotesAreNotCounted(Check check) {
        House x = check.houseWithTen(5);
        x.due(0, "silent", 0, 0);
        House y = check.houseWithTen(6);
        y.due(1, "silent", 0, 0);
    }

    static void ticksAreCountedAndNotSteps(Check check) {
        House x = check.houseWithTen(6);
        x.given("tempo", 0, 5, 9);
        x.due(9, "silent", 0, 0);
    }

    static void ticksAreCountedAndNotPitches(Check check) {
        House x = check.houseWithTen(7);
        x.due(2, "silent", 0, 0);
    }

    static void thatSoundAgainAreNotCounted(Check check) {
        House x = check.houseWithTen(9);
        x.due(3, "silent", 0, 1);
        x.given("lay", 0, 20, 9, 9);
        // From 0 on, it has 8 again as tick 17 begins.
        x.due(3 + 8, "silent", 0, 1);
    }

    static void bridgesAreNotesToo(Check check) {
        House x = check.houseWithTen(6);
        x.given("lay", 0, 20, 100, 9);
        x.due(1 + 9, "silent", 0, 0);
    }

    static void upToTheLastTick(Check check) {
        House x = check.houseWithTen(5);
        x.given("lay", 0, 20, 299, 1);
        x.due(1, "silent", 0, 0);
        x.given("tempo", 0, 299, 9);
        x.due(9, "silent", 0, 0);
    }

    /** The most that can be: notes in all steps, and nine ticks each. */
    static void nearlyAllTicks(Check check) {
        House x = check.house(1);
        x.given("tempo", 0, 0, 9);
        x.lays(0, 60, new int[] {6, 0}, new int[] {8, 60}, new int[] {6, 120}, new int[] {8, 180}, new int[] {6, 240});
        x.due(2700 - 43, "silent", 0, 0);
    }

    static void playingChangesNothing(Check check) {
        House x = check.houseWithTen(9);
        x.due(4, "silent", 0, 0);
        x.refuses("silent", 0, 21);
        x.refuses("silent", 1, 0);
        x.isAsWithoutOtherCalls();
        x.due(4, "silent", 0, 0);
    }
}
