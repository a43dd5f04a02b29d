/** Promise 12: move, with the small bar. */
public final class Promise12MoveTest {
    public static void main(String[] args) {
        Check.run(Promise12MoveTest.class);
    }

    static void noSuchRolls(Check check) {
        House x = check.house(0);
        x.refuses("move", 0, 1);
        x.given("roll");
        x.refuses("move", 0, 1);
        x.refuses("move", 1, 0);
        x.given("roll");
        x.refusesOutside(0, 1, 0, "move", 0, 1);
        x.refusesOutside(0, 1, 1, "move", 0, 1);
        x.refuses("move", 2, 2);
        x.refuses("move", -1, -1);
        x.due(0, "move", 0, 1);
    }

    static void theTwoAreUnlike(Check check) {
        House x = check.house(2);
        x.refuses("move", 0, 0);
        x.refuses("move", 1, 1);
        x.given("lay", 0, 1, 0, 1);
        x.refuses("move", 0, 0);
        x.hasNotes(0, new int[] {1, 0, 1});
    }

    static void theOtherOneIsNotEmpty(Check check) {
        House x = check.house(2);
        x.given("lay", 0, 1, 0, 1);
        x.given("lay", 1, 5, 200, 1);
        x.given("tempo", 0, 0, 9);
        x.refuses("move", 0, 1);
        x.refuses("move", 1, 0);
        x.hasNotes(0, new int[] {1, 0, 1});
        x.hasNotes(1, new int[] {5, 200, 1});
        x.due(600, "ticks", 1);
    }

    static void oneThatHasBeenEmptiedIsEmpty(Check check) {
        House x = check.house(2);
        x.given("lay", 0, 1, 0, 20);
        x.given("lay", 1, 13, 3, 9);
        x.refuses("move", 0, 1);
        x.given("lift", 1, 13, 3);
        x.due(0, "move", 0, 1);
        x.hasNotes(1, new int[] {13, 0, 20});
    }

    /** As the document is read here: a roll without notes is empty, and its marks give way. */
    static void marksOfTempoAloneLeaveARollEmpty(Check check) {
        House x = check.house(2);
        x.given("lay", 0, 1, 0, 20);
        x.given("tempo", 0, 7, 3);
        x.given("tempo", 1, 0, 9);
        x.given("tempo", 1, 50, 9);
        x.due(0, "move", 0, 1);
        x.due(1, "count", 21);
        x.due(14 + 293 * 3, "ticks", 1);
    }

    static void tempoIsAsTheFirstOnes(Check check) {
        House x = check.house(3);
        for (int i = 0; i < 10; i++) {
            x.given("tempo", 0, 30 * i, 1 + i % 9);
        }
        int ticks = x.ask("ticks", 0);
        x.due(0, "move", 0, 1);
        x.due(10, "count", 21);
        x.due(ticks, "ticks", 1);
        x.refuses("tempo", 1, 1, 1);
        x.given("tempo", 0, 0, 9);
        x.due(ticks, "ticks", 1);
        x.due(0, "move", 2, 1);
        x.due(0, "count", 21);
        x.due(600, "ticks", 1);
        x.due(10, "count", 20);
    }

    static void anEmptyOneIsMoved(Check check) {
        House x = check.house(2);
        x.due(0, "move", 0, 1);
        x.due(0, "move", 1, 0);
        x.hasNotes(0);
        x.hasNotes(1);
    }

    static void theEndsOfTheSmallBar(Check check) {
        House x = check.house(2);
        int[] pitches = {0, 3, 4, 19, 20, 23};
        int[] moved = {12, 15, 4, 19, 8, 11};
        for (int i = 0; i < 6; i++) {
            x.given("lay", 0, pitches[i], 20 * i, 9 + i);
        }
        x.due(0, "move", 0, 1);
        for (int i = 0; i < 6; i++) {
            x.due(moved[i], "note", 1, i, 0);
            x.due(20 * i, "note", 1, i, 1);
            x.due(9 + i, "note", 1, i, 2);
            x.due(pitches[i], "note", 0, i, 0);
        }
        x.due(6, "count", 11);
        x.due(2, "hole", 1, 12, 7);
        x.due(1, "hole", 1, 12, 8);
    }

    static void eachPitchHasItsPlace(Check check) {
        House x = check.house(2);
        for (int pitch = 0; pitch < 24; pitch++) {
            x.given("lay", 0, pitch, 10 * pitch, 3);
        }
        x.due(0, "move", 0, 1);
        for (int pitch = 0; pitch < 24; pitch++) {
            int want = pitch < 4 ? pitch + 12 : pitch > 19 ? pitch - 12 : pitch;
            x.due(want, "note", 1, pitch, 0);
        }
    }

    static void thoseTooNearAreDropped(Check check) {
        House x = check.house(2);
        x.given("lay", 0, 14, 0, 4);
        x.given("lay", 0, 2, 4, 3);
        x.given("lay", 0, 14, 9, 1);
        x.given("lay", 0, 2, 11, 2);
        x.due(1, "move", 0, 1);
        x.hasNotes(1, new int[] {14, 0, 4}, new int[] {14, 9, 1}, new int[] {14, 11, 2});
    }

    static void ofTwoThatMeetTheFirstInOrderStays(Check check) {
        House x = check.house(2);
        x.given("lay", 0, 14, 4, 3);
        x.given("lay", 0, 2, 4, 4);
        x.given("lay", 0, 9, 4, 3);
        x.given("lay", 0, 21, 4, 2);
        x.due(2, "move", 0, 1);
        x.hasNotes(1, new int[] {9, 4, 3}, new int[] {14, 4, 4});
    }

    static void oneThatIsDroppedIsInNoOnesWay(Check check) {
        House x = check.house(2);
        x.given("lay", 0, 14, 0, 10);
        x.given("lay", 0, 2, 5, 20);
        x.given("lay", 0, 14, 12, 3);
        x.due(1, "move", 0, 1);
        x.hasNotes(1, new int[] {14, 0, 10}, new int[] {14, 12, 3});
    }

    static void thoseThatThePaperDoesNotBearAreDropped(Check check) {
        House x = check.house(2);
        // 0, 1, 2 come to 12, 13, 14: neither 15 nor 11 (that was 23) is borne beside them.
        x.lays(0, 2, new int[] {0, 5}, new int[] {1, 5}, new int[] {2, 5}, new int[] {15, 5}, new int[] {23, 5});
        x.lays(0, 1, new int[] {3, 8}, new int[] {16, 7}, new int[] {4, 8});
        x.due(2, "move", 0, 1);
        x.hasNotes(1, new int[] {12, 5, 2}, new int[] {13, 5, 2}, new int[] {14, 5, 2}, new int[] {16, 7, 1},
                new int[] {4, 8, 1}, new int[] {15, 8, 1});
        x.due(8, "count", 10);
    }

    static void sixtyAreMoved(Check check) {
        House x = check.house(2);
        for (int i = 0; i < 60; i++) {
            x.given("lay", 0, 23, 5 * i, 4);
        }
        x.due(0, "move", 0, 1);
        x.due(60, "count", 11);
        x.due(11, "note", 1, 59, 0);
        x.due(295, "note", 1, 59, 1);
        x.refuses("lay", 1, 0, 0, 1);
    }

    static void allButOneOfManyAreDropped(Check check) {
        House x = check.house(2);
        x.given("lay", 0, 12, 0, 60);
        for (int i = 0; i < 29; i++) {
            x.given("lay", 0, 0, 2 * i + 1, 1);
        }
        x.due(29, "move", 0, 1);
        x.hasNotes(1, new int[] {12, 0, 60});
    }

    static void theTwoStayTwo(Check check) {
        House x = check.house(2);
        x.given("lay", 0, 4, 0, 9);
        x.given("tempo", 0, 9, 5);
        x.due(0, "move", 0, 1);
        x.given("lift", 0, 4, 0);
        x.given("tempo", 0, 9, 1);
        x.hasNotes(1, new int[] {4, 0, 9});
        x.due(18 + 291 * 5, "ticks", 1);
        x.given("lay", 1, 0, 0, 1);
        x.hasNotes(0);
    }

    static void aRefusedMoveChangesNothing(Check check) {
        House x = check.house(3);
        x.given("lay", 0, 1, 0, 9);
        x.given("tempo", 0, 0, 9);
        x.given("lay", 1, 5, 0, 1);
        x.given("tempo", 1, 3, 3);
        x.given("tempo", 2, 4, 4);
        x.refusesEach("move", new int[][] {{0, 0}, {1, 1}, {2, 2}, {0, 1}, {1, 0}, {2, 0}, {0, 3}, {3, 2}, {-1, 2},
            {0, -1}, {House.MAX, 2}, {0, House.MIN}});
        x.isAsWithoutOtherCalls();
    }
}
