/** Promises 13 to 17: item, clear, align, paired, mend. */
public final class ScoreTest {
    private static final Check check = new Check("ScoreTest");
    private static final int MIN = Integer.MIN_VALUE;
    private static final int MAX = Integer.MAX_VALUE;

    public static void main(String[] args) {
        items();
        wrongNumbers();
        emptySides();
        costs();
        ties();
        figures();
        fullSides();
        mending();
        mendingInTheWay();
        mendingKeepsTheAlignmentAhead();
        check.end();
    }

    private static void items() {
        RollHouse x = new RollHouse();
        int[][] wrong = {{-1, 0}, {24, 0}, {0, -1}, {0, 300}, {MAX, 0}, {0, MIN}};
        for (int[] w : wrong) {
            check.due("item" + java.util.Arrays.toString(w), x.item(w[0], w[1]), -1);
        }
        check.due("item(23, 5)", x.item(23, 5), 0);
        check.due("a lesser step: item(0, 4)", x.item(0, 4), -1);
        check.due("the same: item(0, 5)", x.item(0, 5), 1);
        check.due("item(0, 299)", x.item(0, 299), 2);
        check.due("item(0, 298)", x.item(0, 298), -1);
        for (int i = 3; i < 40; i++) {
            check.due("item", x.item(i % 24, 299), i);
        }
        check.due("a 41st: item(0, 299)", x.item(0, 299), -1);
        check.due("count(1)", x.count(1), 40);
        x.clear();
        check.due("count(1)", x.count(1), 0);
        check.due("after clear: item(4, 0)", x.item(4, 0), 0);
        x.clear();
        x.clear();
        check.due("count(1)", x.count(1), 0);
    }

    private static void wrongNumbers() {
        RollHouse x = Check.withRolls(1);
        x.lay(0, 5, 5, 5);
        x.item(5, 5);
        int[][] wrong = {{1, 0}, {-1, 0}, {0, 6}, {0, -1}, {0, MAX}, {0, MIN}, {MAX, 0}};
        for (int[] w : wrong) {
            check.due("align" + java.util.Arrays.toString(w), x.align(w[0], w[1]), -1);
        }
        int[][] unpaired = {{1, 0}, {-1, 0}, {0, 1}, {0, -1}, {0, MAX}, {0, MIN}, {MIN, 0}};
        for (int[] w : unpaired) {
            check.due("paired" + java.util.Arrays.toString(w), x.paired(w[0], w[1]), -1);
        }
        check.due("paired(0, 0)", x.paired(0, 0), 0);
        check.due("mend(1)", x.mend(1), -1);
        check.due("mend(-1)", x.mend(-1), -1);
        check.due("mend(MAX)", x.mend(MAX), -1);
        check.due("mend(0)", x.mend(0), 0);
        x.clear();
        check.due("after clear: paired(0, 0)", x.paired(0, 0), -1);
    }

    private static void emptySides() {
        RollHouse x = Check.withRolls(1);
        for (int what = 0; what < 6; what++) {
            check.due("nothing: align(0, what)", x.align(0, what), 0);
        }
        x.item(0, 0);
        x.item(0, 9);
        check.due("items alone: align(0, 0)", x.align(0, 0), 10);
        check.due("items alone: align(0, 2)", x.align(0, 2), 2);
        check.due("items alone: align(0, 3)", x.align(0, 3), 0);
        check.due("items alone: paired(0, 1)", x.paired(0, 1), -1);
        check.due("items alone: mend(0)", x.mend(0), 0);
        x.clear();
        x.lay(0, 3, 3, 3);
        x.lay(0, 5, 3, 3);
        x.lay(0, 7, 3, 3);
        check.due("notes alone: align(0, 0)", x.align(0, 0), 15);
        check.due("notes alone: align(0, 1)", x.align(0, 1), 0);
        check.due("notes alone: align(0, 2)", x.align(0, 2), 0);
        check.due("notes alone: align(0, 3)", x.align(0, 3), 3);
        check.due("notes alone: mend(0)", x.mend(0), 0);
    }

    /** The cost of one note (pitch 10, steps 100 on) against one item. */
    private static void costs() {
        int[][] rows = {{10, 100, 0}, {11, 100, 2}, {9, 100, 2}, {10, 101, 1}, {10, 99, 1}, {10, 104, 4},
            {10, 96, 4}, {10, 105, 4}, {10, 0, 4}, {10, 299, 4}, {13, 103, 9}, {13, 104, 10}, {13, 200, 10},
            {14, 102, 10}, {14, 103, 10}, {15, 100, 10}, {5, 100, 10}, {15, 101, 10}, {16, 100, 10}};
        for (int[] r : rows) {
            RollHouse x = Check.withRolls(1);
            x.lay(0, 10, 100, 20);
            x.item(r[0], r[1]);
            int apart = 2 * Math.abs(r[0] - 10) + Math.min(4, Math.abs(r[1] - 100));
            String at = "item(" + r[0] + ", " + r[1] + "): ";
            check.due(at + "align(0, 0)", x.align(0, 0), r[2]);
            // At a cost of 10 a pair comes ahead of the two alone.
            check.due(at + "align(0, 1)", x.align(0, 1), apart <= 10 ? 1 : 0);
            check.due(at + "align(0, 2)", x.align(0, 2), apart <= 10 ? 0 : 1);
            check.due(at + "align(0, 3)", x.align(0, 3), apart <= 10 ? 0 : 1);
            check.due(at + "paired(0, 0)", x.paired(0, 0), apart <= 10 ? 0 : -1);
        }
    }

    private static void ties() {
        // Two notes alike to one item: the pair of the first note comes first.
        RollHouse x = Check.withRolls(1);
        x.lay(0, 9, 50, 1);
        x.lay(0, 11, 50, 1);
        x.item(10, 50);
        check.due("align(0, 0)", x.align(0, 0), 7);
        check.due("paired(0, 0)", x.paired(0, 0), 0);
        // Two items alike to one note: the pair with the first item comes first.
        RollHouse y = Check.withRolls(1);
        y.lay(0, 10, 50, 1);
        y.item(9, 50);
        y.item(11, 50);
        check.due("paired(0, 0)", y.paired(0, 0), 0);
        check.due("paired(0, 1)", y.paired(0, 1), -1);
        // One pair of (note 0, item 1) or of (note 1, item 0), each at cost 0 with both others alone:
        // an item missed first comes ahead of a note extra first.
        RollHouse z = Check.withRolls(1);
        z.lay(0, 2, 50, 1);
        z.lay(0, 20, 50, 1);
        z.item(20, 50);
        z.item(2, 50);
        check.due("align(0, 0)", z.align(0, 0), 10);
        check.due("paired(0, 0)", z.paired(0, 0), -1);
        check.due("paired(0, 1)", z.paired(0, 1), 0);
    }

    private static void figures() {
        RollHouse x = Check.withRolls(1);
        int[][] notes = {{5, 0}, {9, 10}, {12, 20}, {3, 30}, {20, 40}, {7, 50}};
        for (int[] n : notes) {
            check.due("lay", x.lay(0, n[0], n[1], 3), 1);
        }
        int[][] items = {{5, 0}, {10, 10}, {12, 22}, {19, 43}, {0, 45}, {23, 46}, {7, 50}};
        for (int[] it : items) {
            x.item(it[0], it[1]);
        }
        int[] paired = {0, 1, 2, 4, -1, -1, 5};
        for (int j = 0; j < 7; j++) {
            check.due("paired(0, " + j + ")", x.paired(0, j), paired[j]);
        }
        int[] figures = {0 + 2 + 2 + 5 + 5 + 5 + 5 + 0, 5, 2, 1, 2, 2};
        for (int what = 0; what < 6; what++) {
            check.due("align(0, " + what + ")", x.align(0, what), figures[what]);
        }
        check.due("align changes nothing: count(10)", x.count(10), 6);
    }

    /** 60 notes and 40 items, where the last notes, the last items or all are paired. */
    private static void fullSides() {
        RollHouse x = Check.withRolls(1);
        for (int i = 0; i < 60; i++) {
            x.lay(0, 12, 4 * i, 1);
        }
        for (int j = 0; j < 40; j++) {
            x.item(12, 4 * (j + 20));
        }
        int[] atTheEnd = {100, 40, 0, 20, 0, 0};
        for (int what = 0; what < 6; what++) {
            check.due("the last notes: align(0, " + what + ")", x.align(0, what), atTheEnd[what]);
        }
        check.due("the last notes: paired(0, 0)", x.paired(0, 0), 20);
        check.due("the last notes: paired(0, 39)", x.paired(0, 39), 59);
        check.due("the last notes: paired(0, 40)", x.paired(0, 40), -1);
        x.clear();
        for (int j = 0; j < 40; j++) {
            x.item(j < 10 ? 12 : 23, j < 10 ? 4 * (j + 50) + 1 : 299);
        }
        int[] itemsLeft = {10 + 50 * 5 + 30 * 5, 10, 30, 50, 0, 10};
        for (int what = 0; what < 6; what++) {
            check.due("items are left: align(0, " + what + ")", x.align(0, what), itemsLeft[what]);
        }
        check.due("items are left: paired(0, 9)", x.paired(0, 9), 59);
        check.due("items are left: paired(0, 10)", x.paired(0, 10), -1);
        check.due("items are left: paired(0, 39)", x.paired(0, 39), -1);
        x.clear();
        for (int j = 0; j < 40; j++) {
            x.item(13, 4 * j);
        }
        check.due("the first notes: align(0, 0)", x.align(0, 0), 40 * 2 + 20 * 5);
        check.due("the first notes: mend(0)", x.mend(0), 40);
        check.due("the first notes: align(0, 0)", x.align(0, 0), 20 * 5);
        check.due("the first notes: note(0, 39, 0)", x.note(0, 39, 0), 13);
        check.due("the first notes: note(0, 40, 0)", x.note(0, 40, 0), 12);
    }

    private static void mending() {
        RollHouse x = Check.withRolls(1);
        x.lay(0, 5, 0, 20);
        x.lay(0, 9, 30, 4);
        x.lay(0, 12, 40, 1);
        x.item(7, 1);
        x.item(9, 33);
        x.item(11, 40);
        check.due("mend(0)", x.mend(0), 2);
        int[][] want = {{7, 0, 20}, {9, 30, 4}, {11, 40, 1}};
        for (int i = 0; i < 3; i++) {
            for (int what = 0; what < 3; what++) {
                check.due("note(0, " + i + ", " + what + ")", x.note(0, i, what), want[i][what]);
            }
        }
        check.due("hole(0, 5, 0)", x.hole(0, 5, 0), 0);
        check.due("hole(0, 7, 7)", x.hole(0, 7, 7), 2);
        check.due("hole(0, 7, 19)", x.hole(0, 7, 19), 1);
        check.due("count(10)", x.count(10), 3);
        check.due("again: mend(0)", x.mend(0), 0);
    }

    private static void mendingInTheWay() {
        // The note of pitch 7 is in the way of that of 5; the paper does not bear 16 beside 13 to 15.
        RollHouse x = Check.withRolls(1);
        x.lay(0, 5, 10, 9);
        x.lay(0, 7, 19, 4);
        x.item(7, 10);
        x.item(7, 19);
        check.due("too near: mend(0)", x.mend(0), 0);
        check.due("as it was: note(0, 0, 0)", x.note(0, 0, 0), 5);
        check.due("as it was: note(0, 0, 2)", x.note(0, 0, 2), 9);
        check.due("as it was: hole(0, 5, 17)", x.hole(0, 5, 17), 2);
        RollHouse y = Check.withRolls(1);
        y.lay(0, 13, 0, 2);
        y.lay(0, 14, 0, 2);
        y.lay(0, 15, 0, 2);
        y.lay(0, 17, 1, 2);
        y.item(13, 0);
        y.item(14, 0);
        y.item(15, 0);
        y.item(16, 1);
        check.due("not borne: mend(0)", y.mend(0), 0);
        check.due("as it was: note(0, 3, 0)", y.note(0, 3, 0), 17);
        check.due("hole(0, 16, 1)", y.hole(0, 16, 1), 0);
        // A note is not in its own way: 59 others are there, and it may move by one.
        RollHouse z = Check.withRolls(1);
        for (int i = 0; i < 60; i++) {
            z.lay(0, 4, 5 * i, 4);
        }
        z.item(5, 0);
        check.due("sixty: mend(0)", z.mend(0), 1);
        check.due("sixty: count(10)", z.count(10), 60);
        check.due("sixty: note(0, 0, 0)", z.note(0, 0, 0), 5);
    }

    private static void mendingKeepsTheAlignmentAhead() {
        // The first note comes behind the second one in order as it is mended, but the second
        // one's pair still is its own.
        RollHouse x = Check.withRolls(1);
        x.lay(0, 5, 10, 3);
        x.lay(0, 6, 10, 4);
        x.item(8, 10);
        x.item(7, 10);
        check.due("align(0, 1)", x.align(0, 1), 2);
        check.due("paired(0, 0)", x.paired(0, 0), 0);
        check.due("mend(0)", x.mend(0), 2);
        check.due("note(0, 0, 0)", x.note(0, 0, 0), 7);
        check.due("note(0, 0, 2)", x.note(0, 0, 2), 4);
        check.due("note(0, 1, 0)", x.note(0, 1, 0), 8);
        check.due("note(0, 1, 2)", x.note(0, 1, 2), 3);
        // Pair by pair: the first finds its place taken still, the second leaves it.
        RollHouse y = Check.withRolls(1);
        y.lay(0, 5, 10, 3);
        y.lay(0, 6, 10, 4);
        y.item(6, 10);
        y.item(7, 10);
        check.due("paired(0, 0)", y.paired(0, 0), 0);
        check.due("paired(0, 1)", y.paired(0, 1), 1);
        check.due("mend(0)", y.mend(0), 1);
        check.due("note(0, 0, 0)", y.note(0, 0, 0), 5);
        check.due("note(0, 0, 2)", y.note(0, 0, 2), 3);
        check.due("note(0, 1, 0)", y.note(0, 1, 0), 7);
        RollHouse z = Check.withRolls(1);
        z.lay(0, 5, 10, 3);
        z.lay(0, 6, 12, 4);
        z.item(6, 10);
        z.item(7, 12);
        check.due("mend(0)", z.mend(0), 1);
        check.due("note(0, 0, 0)", z.note(0, 0, 0), 5);
        check.due("note(0, 1, 0)", z.note(0, 1, 0), 7);
        check.due("mend(0)", z.mend(0), 1);
        check.due("note(0, 0, 0)", z.note(0, 0, 0), 6);
    }
}
