/** Promises 1 to 7: a new object, roll, lay, lift, hole, note, tempo (with 11, ticks, to see it). */
public final class RollTest {
    private static final Check check = new Check("RollTest");
    private static final int MIN = Integer.MIN_VALUE;
    private static final int MAX = Integer.MAX_VALUE;

    public static void main(String[] args) {
        newObject();
        rolls();
        layNumbers();
        near();
        paper();
        sixtyNotes();
        lifting();
        holes();
        order();
        tempo();
        check.end();
    }

    private static void newObject() {
        RollHouse x = new RollHouse();
        for (int what = 0; what <= 4; what++) {
            check.due("new: count(" + what + ")", x.count(what), 0);
        }
        check.due("new: count(10)", x.count(10), -1);
        check.due("new: count(20)", x.count(20), -1);
        check.due("new: lay(0, 0, 0, 1)", x.lay(0, 0, 0, 1), -1);
        check.due("new: ticks(0)", x.ticks(0), -1);
        check.due("new: since(0, 0)", x.since(0, 0), 1);
        check.due("new: since(23, 1)", x.since(23, 1), 1001);
        check.due("new: where(1, 0, 0)", x.where(1, 0, 0), 0);
        RollHouse other = new RollHouse();
        x.roll();
        x.sight(1, 0, true);
        check.due("two objects: count(0)", other.count(0), 0);
        check.due("two objects: since(0, 1)", other.since(0, 1), 1001);
    }

    private static void rolls() {
        RollHouse x = new RollHouse();
        for (int i = 0; i < 6; i++) {
            check.due("roll()", x.roll(), i);
            check.due("count(10 and r)", x.count(10 + i), 0);
            check.due("count(20 and r)", x.count(20 + i), 0);
        }
        check.due("a seventh roll()", x.roll(), -1);
        check.due("an eighth roll()", x.roll(), -1);
        check.due("count(0)", x.count(0), 6);
        check.due("the sixth: lay(5, 0, 0, 1)", x.lay(5, 0, 0, 1), 1);
        check.due("no seventh: lay(6, 0, 0, 1)", x.lay(6, 0, 0, 1), -1);
        check.due("no seventh: lift(6, 0, 0)", x.lift(6, 0, 0), -1);
        check.due("no seventh: hole(6, 0, 0)", x.hole(6, 0, 0), -1);
        check.due("no seventh: note(6, 0, 0)", x.note(6, 0, 0), -1);
        check.due("no seventh: tempo(6, 0, 1)", x.tempo(6, 0, 1), -1);
        check.due("no seventh: sounds(6, 0, 0)", x.sounds(6, 0, 0), -1);
        check.due("no seventh: pressure(6, 0, 0)", x.pressure(6, 0, 0), -1);
        check.due("no seventh: silent(6, 0)", x.silent(6, 0), -1);
        check.due("no seventh: ticks(6)", x.ticks(6), -1);
        check.due("no seventh: move(5, 6)", x.move(5, 6), -1);
        check.due("no seventh: align(6, 0)", x.align(6, 0), -1);
        check.due("no seventh: mend(6)", x.mend(6), -1);
    }

    private static void layNumbers() {
        RollHouse x = Check.withRolls(2);
        int[][] wrong = {{2, 0, 0, 1}, {-1, 0, 0, 1}, {MAX, 0, 0, 1}, {MIN, 0, 0, 1},
            {0, 24, 0, 1}, {0, -1, 0, 1}, {0, MAX, 0, 1}, {0, MIN, 0, 1},
            {0, 0, -1, 1}, {0, 0, 300, 1}, {0, 0, MAX, 1}, {0, 0, MIN, 1}, {0, 0, MAX, MAX},
            {0, 0, 0, 0}, {0, 0, 0, 61}, {0, 0, 0, -1}, {0, 0, 0, MAX}, {0, 0, 0, MIN},
            {0, 0, 299, 2}, {0, 0, 241, 60}, {0, 0, 240, 61}, {0, 0, 299, MAX}};
        for (int[] w : wrong) {
            check.due("lay" + java.util.Arrays.toString(w), x.lay(w[0], w[1], w[2], w[3]), -1);
        }
        check.due("nothing is laid", x.count(10) + x.count(11), 0);
        check.due("lay(0, 0, 240, 60)", x.lay(0, 0, 240, 60), 1);
        check.due("lay(0, 23, 0, 60)", x.lay(0, 23, 0, 60), 1);
        check.due("lay(1, 23, 299, 1)", x.lay(1, 23, 299, 1), 1);
        check.due("lay(1, 23, 0, 1)", x.lay(1, 23, 0, 1), 1);
        check.due("hole(1, 23, 299)", x.hole(1, 23, 299), 1);
        check.due("hole(0, 23, 299)", x.hole(0, 23, 299), 0);
    }

    private static void near() {
        RollHouse x = Check.withRolls(2);
        check.due("lay(0, 5, 100, 10)", x.lay(0, 5, 100, 10), 1);
        int[][] near = {{100, 10}, {109, 1}, {110, 1}, {99, 1}, {90, 10}, {90, 60}, {103, 2}, {50, 50}};
        for (int[] n : near) {
            check.due("near: lay(0, 5, " + n[0] + ", " + n[1] + ")", x.lay(0, 5, n[0], n[1]), -2);
        }
        check.due("other pitch: lay(0, 6, 100, 10)", x.lay(0, 6, 100, 10), 1);
        check.due("other roll: lay(1, 5, 105, 1)", x.lay(1, 5, 105, 1), 1);
        check.due("just behind: lay(0, 5, 111, 3)", x.lay(0, 5, 111, 3), 1);
        check.due("just ahead: lay(0, 5, 89, 10)", x.lay(0, 5, 89, 10), 1);
        check.due("between: lay(0, 5, 99, 1)", x.lay(0, 5, 99, 1), -2);
        // A bridge is a step of its note too, so a note upon it is too near.
        check.due("upon a bridge: lay(0, 5, 107, 1)", x.lay(0, 5, 107, 1), -2);
        check.due("count(10)", x.count(10), 4);
        check.due("count(11)", x.count(11), 1);
    }

    private static void paper() {
        RollHouse x = Check.withRolls(3);
        int[] ten = {0, 1, 2, 4, 5, 6, 8, 9, 10, 12};
        for (int pitch : ten) {
            check.due("ten: lay(0, " + pitch + ", 50, 9)", x.lay(0, pitch, 50, 9), 1);
        }
        check.due("eleventh: lay(0, 14, 50, 1)", x.lay(0, 14, 50, 1), -3);
        check.due("eleventh at its end: lay(0, 14, 40, 11)", x.lay(0, 14, 40, 11), -3);
        check.due("ahead: lay(0, 14, 40, 10)", x.lay(0, 14, 40, 10), 1);
        check.due("all bridges there: lay(0, 16, 57, 1)", x.lay(0, 16, 57, 1), 1);
        check.due("one too far: lay(0, 18, 57, 2)", x.lay(0, 18, 57, 2), -3);
        check.due("too near is told first: lay(0, 12, 50, 1)", x.lay(0, 12, 50, 1), -2);
        check.due("lay(0, 19, 58, 1)", x.lay(0, 19, 58, 1), -3);
        check.due("its own bridge there: lay(0, 19, 51, 9)", x.lay(0, 19, 51, 9), -3);
        four(x);
        check.due("lay(2, 20, 10, 16)", x.lay(2, 20, 10, 16), 1);
        check.due("lay(2, 21, 17, 1)", x.lay(2, 21, 17, 1), 1);
        check.due("lay(2, 22, 17, 1)", x.lay(2, 22, 17, 1), 1);
        check.due("a bridge parts: lay(2, 23, 17, 1)", x.lay(2, 23, 17, 1), 1);
        check.due("and on its other side: lay(2, 19, 17, 1)", x.lay(2, 19, 17, 1), 1);
    }

    private static void four(RollHouse x) {
        check.due("lay(1, 10, 0, 5)", x.lay(1, 10, 0, 5), 1);
        check.due("lay(1, 12, 4, 5)", x.lay(1, 12, 4, 5), 1);
        check.due("lay(1, 13, 4, 1)", x.lay(1, 13, 4, 1), 1);
        check.due("four in the middle: lay(1, 11, 4, 1)", x.lay(1, 11, 4, 1), -3);
        check.due("four at step 4: lay(1, 11, 2, 3)", x.lay(1, 11, 2, 3), -3);
        check.due("three: lay(1, 11, 5, 1)", x.lay(1, 11, 5, 1), 1);
        check.due("three: lay(1, 14, 4, 1)", x.lay(1, 14, 4, 1), 1);
        check.due("four above: lay(1, 15, 4, 1)", x.lay(1, 15, 4, 1), -3);
        // A bridge of the new note's own (its 7th step, 107) asks nothing of the paper.
        check.due("lay(1, 12, 107, 1)", x.lay(1, 12, 107, 1), 1);
        check.due("lay(1, 13, 107, 1)", x.lay(1, 13, 107, 1), 1);
        check.due("lay(1, 14, 107, 1)", x.lay(1, 14, 107, 1), 1);
        check.due("own bridge: lay(1, 15, 100, 9)", x.lay(1, 15, 100, 9), 1);
        check.due("own last step: lay(1, 11, 100, 8)", x.lay(1, 11, 100, 8), -3);
        check.due("own bridge: lay(1, 11, 100, 9)", x.lay(1, 11, 100, 9), 1);
    }

    private static void sixtyNotes() {
        RollHouse x = Check.withRolls(1);
        for (int i = 0; i < 60; i++) {
            check.due("lay " + i, x.lay(0, 7, 4 * i, 1), 1);
        }
        check.due("a 61st: lay(0, 9, 0, 1)", x.lay(0, 9, 0, 1), -1);
        check.due("a 61st, near: lay(0, 7, 0, 1)", x.lay(0, 7, 0, 1), -1);
        check.due("count(10)", x.count(10), 60);
        check.due("hole(0, 9, 0)", x.hole(0, 9, 0), 0);
        check.due("note(0, 59, 1)", x.note(0, 59, 1), 236);
        check.due("note(0, 60, 1)", x.note(0, 60, 1), -1);
        check.due("of sixty none: lift(0, 9, 0)", x.lift(0, 9, 0), -1);
        check.due("lift(0, 7, 0)", x.lift(0, 7, 0), 1);
        check.due("lay(0, 9, 0, 1)", x.lay(0, 9, 0, 1), 1);
        check.due("lay(0, 9, 10, 1)", x.lay(0, 9, 10, 1), -1);
    }

    private static void lifting() {
        RollHouse x = Check.withRolls(1);
        x.lay(0, 3, 10, 20);
        x.lay(0, 3, 31, 5);
        x.lay(0, 4, 10, 7);
        int[][] none = {{1, 3, 10}, {-1, 3, 10}, {0, 3, 9}, {0, 3, 30}, {0, 3, 36}, {0, 5, 10}, {0, -1, 10},
            {0, 24, 10}, {0, 3, -1}, {0, 3, 300}, {0, 3, MAX}, {0, 3, MIN}, {MAX, MAX, MAX}, {0, 4, 17}};
        for (int[] n : none) {
            check.due("lift" + java.util.Arrays.toString(n), x.lift(n[0], n[1], n[2]), -1);
        }
        check.due("count(10)", x.count(10), 3);
        check.due("on a bridge: lift(0, 3, 17)", x.lift(0, 3, 17), 20);
        check.due("again: lift(0, 3, 17)", x.lift(0, 3, 17), -1);
        check.due("hole(0, 3, 10)", x.hole(0, 3, 10), 0);
        check.due("hole(0, 3, 17)", x.hole(0, 3, 17), 0);
        check.due("hole(0, 3, 29)", x.hole(0, 3, 29), 0);
        check.due("hole(0, 4, 10)", x.hole(0, 4, 10), 1);
        check.due("note(0, 0, 0)", x.note(0, 0, 0), 4);
        check.due("note(0, 1, 1)", x.note(0, 1, 1), 31);
        check.due("at its end: lift(0, 3, 35)", x.lift(0, 3, 35), 5);
        check.due("at its beginning: lift(0, 4, 10)", x.lift(0, 4, 10), 7);
        check.due("count(10)", x.count(10), 0);
        check.due("free again: lay(0, 3, 20, 30)", x.lay(0, 3, 20, 30), 1);
        check.due("lay(0, 8, 240, 60)", x.lay(0, 8, 240, 60), 1);
        check.due("the last step: lift(0, 8, 299)", x.lift(0, 8, 299), 60);
        check.due("hole(0, 8, 240)", x.hole(0, 8, 240), 0);
        check.due("hole(0, 8, 299)", x.hole(0, 8, 299), 0);
    }

    private static void holes() {
        RollHouse x = Check.withRolls(1);
        x.lay(0, 5, 100, 60);
        for (int step = 90; step < 170; step++) {
            int k = step - 100;
            boolean bridge = k == 7 || k == 15 || k == 23 || k == 31 || k == 39 || k == 47 || k == 55;
            check.due("hole(0, 5, " + step + ")", x.hole(0, 5, step), k < 0 || k > 59 ? 0 : bridge ? 2 : 1);
        }
        x.lay(0, 9, 0, 16);
        check.due("hole(0, 9, 7)", x.hole(0, 9, 7), 2);
        check.due("the last: hole(0, 9, 15)", x.hole(0, 9, 15), 1);
        x.lay(0, 11, 0, 8);
        check.due("the last: hole(0, 11, 7)", x.hole(0, 11, 7), 1);
        x.lay(0, 13, 0, 9);
        check.due("hole(0, 13, 7)", x.hole(0, 13, 7), 2);
        check.due("hole(0, 13, 8)", x.hole(0, 13, 8), 1);
        int[][] wrong = {{1, 0, 0}, {-1, 0, 0}, {0, -1, 0}, {0, 24, 0}, {0, 0, -1}, {0, 0, 300}, {MIN, MIN, MIN}};
        for (int[] w : wrong) {
            check.due("hole" + java.util.Arrays.toString(w), x.hole(w[0], w[1], w[2]), -1);
        }
        check.due("hole(0, 23, 299)", x.hole(0, 23, 299), 0);
    }

    private static void order() {
        RollHouse x = Check.withRolls(2);
        int[][] laid = {{9, 50, 4}, {3, 50, 1}, {20, 0, 2}, {5, 299, 1}, {6, 50, 60}, {22, 49, 3}, {0, 51, 5}};
        int[][] want = {{20, 0, 2}, {22, 49, 3}, {3, 50, 1}, {6, 50, 60}, {9, 50, 4}, {0, 51, 5}, {5, 299, 1}};
        for (int[] n : laid) {
            check.due("lay", x.lay(0, n[0], n[1], n[2]), 1);
        }
        for (int i = 0; i < 7; i++) {
            for (int what = 0; what < 3; what++) {
                check.due("note(0, " + i + ", " + what + ")", x.note(0, i, what), want[i][what]);
            }
        }
        int[][] wrong = {{0, 7, 0}, {0, -1, 0}, {0, 0, 3}, {0, 0, -1}, {1, 0, 0}, {2, 0, 0}, {-1, 0, 0},
            {0, MAX, 0}, {0, MIN, 1}, {0, 0, MAX}, {0, 0, MIN}};
        for (int[] w : wrong) {
            check.due("note" + java.util.Arrays.toString(w), x.note(w[0], w[1], w[2]), -1);
        }
    }

    private static void tempo() {
        RollHouse x = Check.withRolls(2);
        check.due("ticks(0)", x.ticks(0), 600);
        int[][] wrong = {{2, 0, 1}, {-1, 0, 1}, {0, -1, 1}, {0, 300, 1}, {0, 0, 0}, {0, 0, 10}, {0, 0, -1},
            {0, MAX, 1}, {0, MIN, 1}, {0, 0, MAX}, {0, 0, MIN}};
        for (int[] w : wrong) {
            check.due("tempo" + java.util.Arrays.toString(w), x.tempo(w[0], w[1], w[2]), -1);
        }
        check.due("count(20)", x.count(20), 0);
        check.due("ticks(0)", x.ticks(0), 600);
        check.due("tempo(0, 299, 9)", x.tempo(0, 299, 9), 1);
        check.due("ticks(0)", x.ticks(0), 607);
        check.due("tempo(0, 100, 1)", x.tempo(0, 100, 1), 2);
        check.due("ticks(0)", x.ticks(0), 200 + 199 + 9);
        check.due("tempo(0, 0, 3)", x.tempo(0, 0, 3), 3);
        check.due("ticks(0)", x.ticks(0), 300 + 199 + 9);
        check.due("in its place: tempo(0, 100, 4)", x.tempo(0, 100, 4), 3);
        check.due("ticks(0)", x.ticks(0), 300 + 796 + 9);
        check.due("ticks(1)", x.ticks(1), 600);
        for (int i = 4; i <= 10; i++) {
            check.due("tempo", x.tempo(0, 200 + i, 4), i);
        }
        check.due("an eleventh: tempo(0, 150, 4)", x.tempo(0, 150, 4), -1);
        check.due("ticks(0)", x.ticks(0), 300 + 796 + 9);
        check.due("in its place: tempo(0, 299, 1)", x.tempo(0, 299, 1), 10);
        check.due("ticks(0)", x.ticks(0), 300 + 796 + 1);
        check.due("count(20)", x.count(20), 10);
        check.due("count(21)", x.count(21), 0);
        check.due("ticks(2)", x.ticks(2), -1);
        check.due("ticks(-1)", x.ticks(-1), -1);
        check.due("ticks(MAX)", x.ticks(MAX), -1);
        x.tempo(1, 0, 9);
        check.due("ticks(1)", x.ticks(1), 2700);
    }
}
