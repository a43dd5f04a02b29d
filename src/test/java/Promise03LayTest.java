/** Promise 3: lay, with what the paper bears. */
public final class Promise03LayTest {
    private static final int TOO_NEAR = -2;
    private static final int NOT_BORNE = -3;

    public static void main(String[] args) {
        Check.run(Promise03LayTest.class);
    }

    static void noSuchRoll(Check check) {
        House x = check.house(0);
        x.refuses("lay", 0, 5, 0, 1);
        x.given("roll");
        x.given("roll");
        x.refusesOutside(0, 1, 0, "lay", 0, 5, 0, 1);
        x.due(1, "lay", 1, 5, 0, 1);
        x.due(0, "count", 10);
    }

    static void pitchesAre0To23(Check check) {
        House x = check.house(1);
        x.refusesOutside(0, 23, 1, "lay", 0, 5, 0, 1);
        x.due(1, "lay", 0, 0, 0, 1);
        x.due(1, "lay", 0, 23, 0, 1);
        x.hasNotes(0, new int[] {0, 0, 1}, new int[] {23, 0, 1});
    }

    static void firstStepsAre0To299(Check check) {
        House x = check.house(1);
        x.refusesOutside(0, 299, 2, "lay", 0, 5, 0, 1);
        x.due(1, "lay", 0, 5, 0, 1);
        x.due(1, "lay", 0, 5, 299, 1);
        x.hasNotes(0, new int[] {5, 0, 1}, new int[] {5, 299, 1});
    }

    static void lengthsAre1To60(Check check) {
        House x = check.house(1);
        x.refusesOutside(1, 60, 3, "lay", 0, 5, 0, 1);
        x.due(1, "lay", 0, 5, 100, 1);
        x.due(1, "lay", 0, 5, 0, 60);
        x.hasNotes(0, new int[] {5, 0, 60}, new int[] {5, 100, 1});
    }

    static void allStepsAreUpTo299(Check check) {
        House x = check.house(1);
        x.refusesEach("lay", new int[][] {{0, 5, 299, 2}, {0, 5, 241, 60}, {0, 5, 298, 3}, {0, 5, 299, 60},
            {0, 5, 240, 61}, {0, 5, 299, House.MAX}, {0, 5, House.MAX, 1}, {0, 5, House.MAX, 60},
            {0, 5, House.MAX, House.MAX}, {0, 5, House.MIN, House.MIN}, {0, 5, -1, 2}, {0, 5, -60, 60}});
        x.due(0, "count", 10);
        x.due(1, "lay", 0, 5, 240, 60);
        x.due(1, "lay", 0, 6, 298, 2);
        x.due(1, "hole", 0, 5, 299);
        x.due(1, "hole", 0, 6, 299);
    }

    static void sixtyAreThere(Check check) {
        House x = check.house(2);
        for (int i = 0; i < 60; i++) {
            x.due(i, "count", 10);
            x.due(1, "lay", 0, 7, 4 * i, 1);
        }
        x.refuses("lay", 0, 9, 0, 1);
        x.refuses("lay", 0, 9, 299, 1);
        x.due(60, "count", 10);
        x.due(0, "hole", 0, 9, 0);
        x.due(1, "lay", 1, 9, 0, 1);
    }

    static void oneOfSixtyGivesItsPlaceFree(Check check) {
        House x = check.house(1);
        for (int i = 0; i < 60; i++) {
            x.given("lay", 0, 7, 4 * i, 1);
        }
        x.due(1, "lift", 0, 7, 236);
        x.due(1, "lay", 0, 9, 0, 1);
        x.refuses("lay", 0, 7, 236, 1);
        x.due(60, "count", 10);
    }

    /** NONE is told ahead of -2, and that ahead of -3. */
    static void sixtyAreToldAheadOfNearAndPaper(Check check) {
        House x = check.house(1);
        x.laysTen(0, 1);
        for (int i = 0; i < 50; i++) {
            x.given("lay", 0, 20, 5 * i + 10, 1);
        }
        x.refuses("lay", 0, 0, 0, 1);
        x.refuses("lay", 0, 14, 0, 1);
        x.refuses("lay", 0, 3, 0, 1);
    }

    static void otherNumbersAreToldAheadOfNear(Check check) {
        House x = check.house(1);
        x.given("lay", 0, 5, 290, 10);
        x.refuses("lay", 0, 5, 290, 11);
        x.refuses("lay", 0, 5, 290, 0);
        x.refuses("lay", 0, 5, 290, 61);
    }

    static void oneStepBetweenIsEnough(Check check) {
        House x = check.house(1);
        x.due(1, "lay", 0, 5, 100, 10);
        x.due(TOO_NEAR, "lay", 0, 5, 110, 3);
        x.due(1, "lay", 0, 5, 111, 3);
        x.due(TOO_NEAR, "lay", 0, 5, 90, 10);
        x.due(1, "lay", 0, 5, 89, 10);
        x.hasNotes(0, new int[] {5, 89, 10}, new int[] {5, 100, 10}, new int[] {5, 111, 3});
    }

    static void noStepMayBeOfTwo(Check check) {
        House x = check.house(1);
        x.given("lay", 0, 5, 100, 10);
        int[][] near = {{100, 10}, {100, 1}, {109, 1}, {99, 1}, {109, 60}, {90, 11}, {90, 60}, {103, 2}, {50, 60}};
        for (int[] n : near) {
            x.due(TOO_NEAR, "lay", 0, 5, n[0], n[1]);
        }
        x.due(1, "count", 10);
    }

    static void aBridgeIsAStepOfItsNote(Check check) {
        House x = check.house(1);
        x.given("lay", 0, 5, 100, 10);
        x.due(TOO_NEAR, "lay", 0, 5, 107, 1);
    }

    static void theOnlyStepBetweenTwoIsTooNear(Check check) {
        House x = check.house(1);
        x.lays(0, 1, new int[] {5, 10}, new int[] {5, 12}, new int[] {5, 15});
        x.due(TOO_NEAR, "lay", 0, 5, 11, 1);
        x.due(TOO_NEAR, "lay", 0, 5, 13, 1);
        x.due(TOO_NEAR, "lay", 0, 5, 14, 1);
        x.due(1, "lay", 0, 5, 17, 1);
    }

    static void nearAtTheEndsOfTheRoll(Check check) {
        House x = check.house(1);
        x.lays(0, 1, new int[] {5, 0}, new int[] {5, 299});
        x.due(TOO_NEAR, "lay", 0, 5, 0, 1);
        x.due(TOO_NEAR, "lay", 0, 5, 1, 1);
        x.due(TOO_NEAR, "lay", 0, 5, 299, 1);
        x.due(TOO_NEAR, "lay", 0, 5, 298, 1);
        x.due(1, "lay", 0, 5, 2, 1);
        x.due(1, "lay", 0, 5, 297, 1);
    }

    static void theRollIsNoRing(Check check) {
        House x = check.house(1);
        x.due(1, "lay", 0, 5, 299, 1);
        x.due(1, "lay", 0, 5, 0, 1);
    }

    static void otherPitchesAndRollsAreNotNear(Check check) {
        House x = check.house(2);
        x.lays(0, 4, new int[] {5, 100}, new int[] {6, 100}, new int[] {4, 103}, new int[] {0, 100});
        x.lays(1, 4, new int[] {5, 100});
    }

    static void anEleventhPitchPunchedIsNotBorne(Check check) {
        House x = check.house(1);
        x.laysTen(50, 3);
        x.due(NOT_BORNE, "lay", 0, 14, 50, 3);
        x.due(NOT_BORNE, "lay", 0, 14, 52, 1);
        x.due(NOT_BORNE, "lay", 0, 23, 51, 1);
        x.due(10, "count", 10);
    }

    static void oneStepOfManyThatBearsItNotIsEnough(Check check) {
        House x = check.house(1);
        x.laysTen(50, 1);
        x.due(NOT_BORNE, "lay", 0, 14, 50, 20);
        x.due(NOT_BORNE, "lay", 0, 14, 40, 11);
        x.due(NOT_BORNE, "lay", 0, 14, 46, 9);
        x.due(1, "lay", 0, 14, 40, 10);
        x.due(1, "lay", 0, 16, 51, 20);
    }

    static void theFirstAndLastStepsOfTheRollBearTen(Check check) {
        House x = check.house(1);
        x.laysTen(0, 1);
        x.laysTen(299, 1);
        x.due(NOT_BORNE, "lay", 0, 14, 0, 1);
        x.due(NOT_BORNE, "lay", 0, 14, 299, 1);
        x.due(NOT_BORNE, "lay", 0, 14, 240, 60);
        x.due(1, "lay", 0, 14, 239, 60);
    }

    /** Ten have a bridge in step 57, so ten others may be punched there. */
    static void bridgesAreNotPunched(Check check) {
        House x = check.house(1);
        x.laysTen(50, 9);
        int[] others = {3, 7, 11, 13, 15, 16, 17, 19, 20, 21};
        for (int pitch : others) {
            x.due(1, "lay", 0, pitch, 57, 1);
        }
        x.due(NOT_BORNE, "lay", 0, 23, 57, 1);
        x.due(20, "count", 10);
    }

    static void itsOwnBridgeIsNotPunched(Check check) {
        House x = check.house(1);
        x.laysTen(57, 1);
        x.due(NOT_BORNE, "lay", 0, 14, 51, 9);
        x.due(NOT_BORNE, "lay", 0, 14, 49, 9);
        x.due(1, "lay", 0, 14, 50, 9);
        x.due(1, "lay", 0, 16, 42, 17);
    }

    static void itsOwnLastStepIsPunchedInPlaceOfABridge(Check check) {
        House x = check.house(1);
        x.laysTen(57, 1);
        x.due(NOT_BORNE, "lay", 0, 14, 50, 8);
        x.due(NOT_BORNE, "lay", 0, 14, 42, 16);
        x.due(1, "lay", 0, 14, 50, 7);
    }

    static void fourNextToOneAnotherAreNotBorne(Check check) {
        int[][] threes = {{11, 12, 13, 10}, {10, 12, 13, 11}, {10, 11, 13, 12}, {10, 11, 12, 13},
            {0, 1, 2, 3}, {1, 2, 3, 0}, {20, 21, 22, 23}, {21, 22, 23, 20}, {0, 2, 3, 1}, {20, 21, 23, 22}};
        for (int[] t : threes) {
            House x = check.house(1);
            x.lays(0, 1, new int[] {t[0], 30}, new int[] {t[1], 30}, new int[] {t[2], 30});
            x.due(NOT_BORNE, "lay", 0, t[3], 30, 1);
            x.due(1, "lay", 0, t[3], 31, 1);
        }
    }

    static void moreThanFourNextToOneAnotherAreNotBorneEither(Check check) {
        House x = check.house(1);
        x.lays(0, 1, new int[] {10, 30}, new int[] {11, 30}, new int[] {12, 30}, new int[] {14, 30},
                new int[] {15, 30}, new int[] {16, 30});
        x.due(NOT_BORNE, "lay", 0, 13, 30, 1);
    }

    static void threeAndThreeAreBorne(Check check) {
        House x = check.house(1);
        x.lays(0, 1, new int[] {0, 30}, new int[] {1, 30}, new int[] {2, 30}, new int[] {4, 30},
                new int[] {5, 30}, new int[] {6, 30}, new int[] {21, 30}, new int[] {22, 30}, new int[] {23, 30});
    }

    /** The pitches are no ring: 23 and 0 are not next to one another. */
    static void thePitchesAreNoRing(Check check) {
        House x = check.house(1);
        x.lays(0, 1, new int[] {22, 30}, new int[] {23, 30}, new int[] {0, 30}, new int[] {1, 30});
        House y = check.house(1);
        y.lays(0, 1, new int[] {0, 30}, new int[] {1, 30}, new int[] {2, 30}, new int[] {23, 30});
        House z = check.house(1);
        z.lays(0, 1, new int[] {21, 30}, new int[] {22, 30}, new int[] {23, 30}, new int[] {0, 30});
    }

    static void aBridgePartsFour(Check check) {
        House x = check.house(1);
        x.due(1, "lay", 0, 20, 10, 16);
        x.lays(0, 1, new int[] {21, 17}, new int[] {22, 17}, new int[] {23, 17}, new int[] {19, 17});
        House y = check.house(1);
        y.lays(0, 1, new int[] {12, 107}, new int[] {13, 107}, new int[] {14, 107});
        y.due(NOT_BORNE, "lay", 0, 15, 100, 8);
        y.due(1, "lay", 0, 15, 100, 9);
        y.due(NOT_BORNE, "lay", 0, 11, 100, 8);
        y.due(1, "lay", 0, 11, 100, 9);
    }

    static void tooNearIsToldAheadOfThePaper(Check check) {
        House x = check.house(1);
        x.laysTen(50, 1);
        x.given("lay", 0, 14, 48, 1);
        x.due(TOO_NEAR, "lay", 0, 12, 50, 1);
        x.due(TOO_NEAR, "lay", 0, 14, 49, 2);
        x.due(NOT_BORNE, "lay", 0, 14, 50, 2);
        x.due(TOO_NEAR, "lay", 0, 14, 49, 1);
    }

    static void aRefusedLayChangesNothing(Check check) {
        House x = check.house(2);
        x.laysTen(5, 1);
        x.given("lay", 0, 16, 0, 4);
        x.refusesEach("lay", new int[][] {{2, 20, 0, 1}, {0, 24, 0, 1}, {0, -1, 0, 1}, {0, 20, -1, 1},
            {0, 20, 300, 1}, {0, 20, 0, 0}, {0, 20, 0, 61}, {0, 20, 299, 2}});
        x.due(TOO_NEAR, "lay", 0, 16, 2, 9);
        x.due(TOO_NEAR, "lay", 0, 16, 4, 9);
        x.due(NOT_BORNE, "lay", 0, 18, 1, 9);
        x.due(0, "hole", 0, 16, 4);
        x.due(0, "hole", 0, 16, 10);
        for (int step = 1; step < 10; step++) {
            x.due(0, "hole", 0, 18, step);
        }
        x.isAsWithoutOtherCalls();
        x.due(1, "lay", 0, 18, 0, 5);
        x.due(1, "lay", 0, 16, 6, 3);
    }

    static void aRefused61stChangesNothing(Check check) {
        House x = check.house(1);
        for (int i = 0; i < 60; i++) {
            x.given("lay", 0, 7, 4 * i, 1);
        }
        x.refuses("lay", 0, 9, 0, 9);
        x.refuses("lay", 0, 7, 0, 9);
        x.refuses("lay", 0, 9, 290, 9);
        x.due(0, "hole", 0, 9, 0);
        x.due(0, "hole", 0, 9, 298);
        x.isAsWithoutOtherCalls();
    }
}
