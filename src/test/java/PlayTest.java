/** Promises 8 to 12: sounds, pressure, silent, ticks, move. */
public final class PlayTest {
    private static final Check check = new Check("PlayTest");
    private static final int MIN = Integer.MIN_VALUE;
    private static final int MAX = Integer.MAX_VALUE;

    public static void main(String[] args) {
        wrongNumbers();
        fullAndEmpty();
        threshold();
        crowd();
        bridgesSound();
        tempoTurns();
        moving();
        movingRefused();
        movingUnbearable();
        check.end();
    }

    private static void wrongNumbers() {
        RollHouse x = Check.withRolls(1);
        x.lay(0, 3, 0, 2);
        int[][] wrong = {{1, 0, 0}, {-1, 0, 0}, {0, -1, 0}, {0, 21, 0}, {0, 0, -1}, {0, 0, 600}, {0, 0, MAX},
            {0, 0, MIN}, {0, MAX, 0}, {0, MIN, 0}, {MAX, 0, 0}, {MIN, 0, 0}};
        for (int[] w : wrong) {
            check.due("sounds" + java.util.Arrays.toString(w), x.sounds(w[0], w[1], w[2]), -1);
            check.due("pressure" + java.util.Arrays.toString(w), x.pressure(w[0], w[1], w[2]), -1);
        }
        check.due("silent(1, 0)", x.silent(1, 0), -1);
        check.due("silent(-1, 0)", x.silent(-1, 0), -1);
        check.due("silent(0, -1)", x.silent(0, -1), -1);
        check.due("silent(0, 21)", x.silent(0, 21), -1);
        check.due("silent(0, MAX)", x.silent(0, MAX), -1);
        check.due("sounds(0, 20, 599)", x.sounds(0, 20, 599), 0);
        check.due("pressure(0, 0, 599)", x.pressure(0, 0, 599), 46);
        check.due("silent(0, 0)", x.silent(0, 0), 0);
        check.due("silent(0, 20)", x.silent(0, 20), 0);
    }

    private static void fullAndEmpty() {
        RollHouse x = Check.withRolls(1);
        check.due("pressure(0, 20, 0)", x.pressure(0, 20, 0), 50);
        check.due("pressure(0, 20, 1)", x.pressure(0, 20, 1), 70);
        check.due("pressure(0, 20, 2)", x.pressure(0, 20, 2), 90);
        check.due("pressure(0, 20, 3)", x.pressure(0, 20, 3), 100);
        check.due("pressure(0, 20, 4)", x.pressure(0, 20, 4), 100);
        check.due("pressure(0, 1, 49)", x.pressure(0, 1, 49), 99);
        check.due("pressure(0, 1, 51)", x.pressure(0, 1, 51), 100);
        check.due("pressure(0, 0, 500)", x.pressure(0, 0, 500), 50);
        x.lay(0, 0, 2, 1);
        // Tick 4 begins with 100: it is 100 + 20 - 1, but not above 100.
        check.due("pressure(0, 20, 5)", x.pressure(0, 20, 5), 100);
        check.due("pressure(0, 0, 6)", x.pressure(0, 0, 6), 48);
    }

    private static void threshold() {
        RollHouse x = Check.withRolls(1);
        x.tempo(0, 0, 1);
        x.lay(0, 6, 0, 60);
        check.due("pressure(0, 0, 42)", x.pressure(0, 0, 42), 8);
        check.due("sounds(0, 0, 42)", x.sounds(0, 0, 42), 64);
        check.due("pressure(0, 0, 43)", x.pressure(0, 0, 43), 7);
        check.due("sounds(0, 0, 43)", x.sounds(0, 0, 43), 0);
        check.due("pressure(0, 0, 59)", x.pressure(0, 0, 59), 7);
        check.due("silent(0, 0)", x.silent(0, 0), 17);
        check.due("silent(0, 1)", x.silent(0, 1), 0);
        check.due("pressure(0, 1, 60)", x.pressure(0, 1, 60), 50);
        check.due("pressure(0, 1, 61)", x.pressure(0, 1, 61), 51);
        // With three pitches and a pedal of 1 the bellows fall, wait, and come back.
        x.lay(0, 10, 0, 60);
        x.lay(0, 15, 0, 60);
        check.due("pressure(0, 1, 21)", x.pressure(0, 1, 21), 8);
        check.due("pressure(0, 1, 22)", x.pressure(0, 1, 22), 6);
        check.due("sounds(0, 1, 22)", x.sounds(0, 1, 22), 0);
        check.due("sounds(0, 1, 23)", x.sounds(0, 1, 23), 0);
        check.due("pressure(0, 1, 24)", x.pressure(0, 1, 24), 8);
        check.due("sounds(0, 1, 24)", x.sounds(0, 1, 24), 64 + 1024 + 32768);
        check.due("pressure(0, 1, 25)", x.pressure(0, 1, 25), 6);
    }

    private static void crowd() {
        RollHouse x = Check.withRolls(1);
        x.tempo(0, 0, 1);
        int[] ten = {0, 1, 2, 4, 5, 6, 8, 9, 10, 12};
        int bits = 0;
        for (int pitch : ten) {
            check.due("lay", x.lay(0, pitch, 0, 9), 1);
            bits |= 1 << pitch;
        }
        check.due("lay(0, 14, 7, 1)", x.lay(0, 14, 7, 1), 1);
        check.due("sounds(0, 0, 3)", x.sounds(0, 0, 3), bits);
        check.due("pressure(0, 0, 4)", x.pressure(0, 0, 4), 10);
        check.due("sounds(0, 0, 4)", x.sounds(0, 0, 4), bits);
        check.due("pressure(0, 0, 5)", x.pressure(0, 0, 5), 0);
        check.due("silent(0, 0)", x.silent(0, 0), 4);
        check.due("bridges and one more: sounds(0, 20, 7)", x.sounds(0, 20, 7), bits | 1 << 14);
        check.due("eleven sound: pressure(0, 9, 8)", x.pressure(0, 9, 8), 50 - 7 - 2);
        // Eight sound a tick, then two more of them where only nine are left.
        check.due("lift(0, 12, 0)", x.lift(0, 12, 0), 9);
        check.due("lift(0, 0, 0)", x.lift(0, 0, 0), 9);
        check.due("lift(0, 14, 7)", x.lift(0, 14, 7), 1);
        check.due("pressure(0, 0, 5)", x.pressure(0, 0, 5), 10);
        check.due("pressure(0, 0, 6)", x.pressure(0, 0, 6), 2);
        check.due("lay(0, 12, 5, 1)", x.lay(0, 12, 5, 1), 1);
        check.due("lay(0, 14, 5, 1)", x.lay(0, 14, 5, 1), 1);
        check.due("lay(0, 16, 4, 1)", x.lay(0, 16, 4, 1), 1);
        check.due("pressure(0, 0, 5)", x.pressure(0, 0, 5), 9);
        check.due("not below 0: pressure(0, 0, 6)", x.pressure(0, 0, 6), 0);
    }

    private static void bridgesSound() {
        RollHouse x = Check.withRolls(1);
        x.tempo(0, 0, 1);
        x.lay(0, 23, 10, 10);
        check.due("sounds(0, 5, 9)", x.sounds(0, 5, 9), 0);
        check.due("sounds(0, 5, 10)", x.sounds(0, 5, 10), 1 << 23);
        check.due("a bridge: sounds(0, 5, 17)", x.sounds(0, 5, 17), 1 << 23);
        check.due("sounds(0, 5, 19)", x.sounds(0, 5, 19), 1 << 23);
        check.due("sounds(0, 5, 20)", x.sounds(0, 5, 20), 0);
    }

    private static void tempoTurns() {
        RollHouse x = Check.withRolls(1);
        x.tempo(0, 3, 9);
        x.tempo(0, 5, 1);
        x.lay(0, 1, 3, 1);
        x.lay(0, 2, 4, 1);
        x.lay(0, 3, 5, 1);
        x.lay(0, 4, 299, 1);
        check.due("ticks(0)", x.ticks(0), 6 + 18 + 295);
        check.due("sounds(0, 0, 5)", x.sounds(0, 0, 5), 0);
        check.due("sounds(0, 0, 6)", x.sounds(0, 0, 6), 2);
        check.due("sounds(0, 0, 14)", x.sounds(0, 0, 14), 2);
        check.due("sounds(0, 0, 15)", x.sounds(0, 0, 15), 4);
        check.due("sounds(0, 0, 23)", x.sounds(0, 0, 23), 4);
        check.due("sounds(0, 0, 24)", x.sounds(0, 0, 24), 8);
        check.due("sounds(0, 0, 25)", x.sounds(0, 0, 25), 0);
        check.due("sounds(0, 0, 318)", x.sounds(0, 0, 318), 16);
        check.due("sounds(0, 0, 319)", x.sounds(0, 0, 319), -1);
        check.due("pressure(0, 0, 318)", x.pressure(0, 0, 318), 31);
        check.due("pressure(0, 0, 319)", x.pressure(0, 0, 319), -1);
    }

    private static void moving() {
        RollHouse x = Check.withRolls(3);
        int[] pitches = {0, 3, 4, 19, 20, 23};
        int[] moved = {12, 15, 4, 19, 8, 11};
        for (int i = 0; i < 6; i++) {
            check.due("lay", x.lay(0, pitches[i], 20 * i, 9 + i), 1);
        }
        x.tempo(0, 7, 3);
        x.tempo(0, 9, 5);
        // Marks of tempo are no notes: a roll with them alone is empty, and they give way.
        x.tempo(1, 0, 9);
        x.tempo(1, 50, 9);
        x.tempo(1, 60, 9);
        check.due("move(0, 1)", x.move(0, 1), 0);
        for (int i = 0; i < 6; i++) {
            check.due("note(1, i, 0)", x.note(1, i, 0), moved[i]);
            check.due("note(1, i, 1)", x.note(1, i, 1), 20 * i);
            check.due("note(1, i, 2)", x.note(1, i, 2), 9 + i);
            check.due("note(0, i, 0)", x.note(0, i, 0), pitches[i]);
        }
        check.due("count(21)", x.count(21), 2);
        check.due("count(20)", x.count(20), 2);
        check.due("ticks(1)", x.ticks(1), 14 + 6 + 291 * 5);
        check.due("hole(1, 12, 7)", x.hole(1, 12, 7), 2);
        check.due("hole(1, 12, 8)", x.hole(1, 12, 8), 1);
        // The two rolls are two: a change of one leaves the other.
        x.tempo(0, 9, 1);
        x.lift(0, 4, 40);
        check.due("ticks(1)", x.ticks(1), 14 + 6 + 291 * 5);
        check.due("count(11)", x.count(11), 6);
        check.due("an empty one: move(2, 1)", x.move(2, 1), -1);
        for (int i = 0; i < 6; i++) {
            x.lift(1, moved[i], 20 * i);
        }
        check.due("of an empty one: move(2, 1)", x.move(2, 1), 0);
        check.due("count(21)", x.count(21), 0);
        check.due("ticks(1)", x.ticks(1), 600);
    }

    private static void movingRefused() {
        RollHouse x = Check.withRolls(2);
        x.lay(0, 1, 0, 1);
        x.tempo(0, 0, 9);
        int[][] wrong = {{0, 0}, {1, 1}, {0, 2}, {2, 0}, {-1, 0}, {0, -1}, {MAX, 0}, {0, MIN}, {2, 2}, {1, 0}};
        for (int[] w : wrong) {
            check.due("move" + java.util.Arrays.toString(w), x.move(w[0], w[1]), -1);
        }
        check.due("ticks(0)", x.ticks(0), 2700);
        check.due("ticks(1)", x.ticks(1), 600);
        check.due("count(11)", x.count(11), 0);
        x.lay(1, 5, 0, 1);
        check.due("not empty: move(0, 1)", x.move(0, 1), -1);
        check.due("ticks(1)", x.ticks(1), 600);
        check.due("note(1, 0, 0)", x.note(1, 0, 0), 5);
    }

    private static void movingUnbearable() {
        RollHouse x = Check.withRolls(2);
        // 0, 1, 2 come to 12, 13, 14 beside 15; 23 comes to 11, 3 to 15.
        int[] together = {0, 1, 2, 15, 23};
        for (int pitch : together) {
            check.due("lay(0, " + pitch + ", 5, 2)", x.lay(0, pitch, 5, 2), 1);
        }
        x.lay(0, 3, 8, 1);
        x.lay(0, 16, 7, 1);
        x.lay(0, 4, 8, 1);
        check.due("move(0, 1)", x.move(0, 1), 2);
        int[] want = {12, 13, 14, 16, 4, 15};
        check.due("count(11)", x.count(11), 6);
        for (int i = 0; i < 6; i++) {
            check.due("note(1, " + i + ", 0)", x.note(1, i, 0), want[i]);
        }
        // Of two notes that come to one pitch, that which is first in order stays.
        RollHouse y = Check.withRolls(2);
        y.lay(0, 14, 4, 3);
        y.lay(0, 2, 0, 4);
        y.lay(0, 9, 4, 3);
        y.lay(0, 21, 4, 2);
        check.due("move(0, 1)", y.move(0, 1), 2);
        check.due("note(1, 0, 0)", y.note(1, 0, 0), 14);
        check.due("note(1, 0, 2)", y.note(1, 0, 2), 4);
        check.due("note(1, 1, 0)", y.note(1, 1, 0), 9);
        check.due("note(1, 1, 2)", y.note(1, 1, 2), 3);
        check.due("count(11)", y.count(11), 2);
    }
}
