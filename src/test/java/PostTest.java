import java.util.NoSuchElementException;

/** Promises 21 to 25: line, day, where, there, count. */
public final class PostTest {
    private static final Check check = new Check("PostTest");
    private static final int MIN = Integer.MIN_VALUE;
    private static final int MAX = Integer.MAX_VALUE;
    private static final int THROWN = -99;

    public static void main(String[] args) {
        wrongNumbers();
        days();
        byDay();
        byKnowledge();
        places();
        farDays();
        twoHundred();
        counts();
        check.end();
    }

    private static int where(RollHouse x, int copy, int day, int known) {
        try {
            return x.where(copy, day, known);
        } catch (NoSuchElementException e) {
            return THROWN;
        }
    }

    private static void wrongNumbers() {
        RollHouse x = new RollHouse();
        int[][] lines = {{0, 0, 0}, {1001, 0, 0}, {-1, 0, 0}, {1, -1, 0}, {1, 100001, 0}, {1, 0, -1}, {1, 0, 100},
            {MAX, 0, 0}, {1, MIN, 0}, {1, 0, MAX}};
        for (int[] w : lines) {
            check.due("line" + java.util.Arrays.toString(w), x.line(w[0], w[1], w[2]), -1);
        }
        check.due("count(3)", x.count(3), 0);
        x.line(1, 0, 9);
        x.day(10);
        int[][] wheres = {{0, 0, 0}, {1001, 0, 0}, {-1, 0, 0}, {1, -1, 0}, {1, 100001, 0}, {1, 0, -1}, {1, 0, 11},
            {MAX, 0, 0}, {1, MIN, 0}, {1, 0, MAX}, {1, 0, MIN}, {MIN, MIN, MIN}};
        for (int[] w : wheres) {
            check.due("where" + java.util.Arrays.toString(w), where(x, w[0], w[1], w[2]), THROWN);
        }
        int[][] theres = {{0, 0, 0}, {100, 0, 0}, {-1, 0, 0}, {1, -1, 0}, {1, 100001, 0}, {1, 0, -1}, {1, 0, 11},
            {MAX, 0, 0}, {1, MIN, 0}, {1, 0, MAX}};
        for (int[] w : theres) {
            check.due("there" + java.util.Arrays.toString(w), x.there(w[0], w[1], w[2]), -1);
        }
        check.due("where(1, 100000, 10)", where(x, 1, 100000, 10), 9);
        check.due("where(1000, 100000, 10)", where(x, 1000, 100000, 10), 0);
        check.due("there(9, 100000, 10)", x.there(9, 100000, 10), 1);
        check.due("there(99, 0, 0)", x.there(99, 0, 0), 0);
    }

    private static void days() {
        RollHouse x = new RollHouse();
        check.due("day(0)", x.day(0), 0);
        check.due("day(1000)", x.day(1000), 1000);
        check.due("day(1001)", x.day(1001), -1);
        check.due("day(-1)", x.day(-1), -1);
        check.due("day(MAX)", x.day(MAX), -1);
        check.due("day(MIN)", x.day(MIN), -1);
        check.due("day(1)", x.day(1), 1001);
        check.due("count(4)", x.count(4), 1001);
    }

    private static void byDay() {
        RollHouse x = new RollHouse();
        check.due("line(7, 20, 2)", x.line(7, 20, 2), 1);
        check.due("line(7, 10, 1)", x.line(7, 10, 1), 2);
        check.due("line(8, 15, 5)", x.line(8, 15, 5), 3);
        check.due("line(7, 30, 0)", x.line(7, 30, 0), 4);
        check.due("line(7, 100000, 99)", x.line(7, 100000, 99), 5);
        int[][] due = {{9, 0}, {10, 1}, {19, 1}, {20, 2}, {29, 2}, {30, 0}, {99999, 0}, {100000, 99}};
        for (int[] d : due) {
            check.due("where(7, " + d[0] + ", 0)", where(x, 7, d[0], 0), d[1]);
        }
        check.due("where(8, 14, 0)", where(x, 8, 14, 0), 0);
        check.due("where(8, 100000, 0)", where(x, 8, 100000, 0), 5);
        check.due("of one day the last: line(7, 10, 3)", x.line(7, 10, 3), 6);
        check.due("where(7, 10, 0)", where(x, 7, 10, 0), 3);
        check.due("where(7, 20, 0)", where(x, 7, 20, 0), 2);
        check.due("there(1, 10, 0)", x.there(1, 10, 0), 0);
        check.due("there(3, 10, 0)", x.there(3, 10, 0), 1);
    }

    private static void byKnowledge() {
        RollHouse x = new RollHouse();
        x.line(1, 5, 11);
        x.day(3);
        x.line(1, 5, 22);
        x.line(1, 2, 33);
        x.day(4);
        x.line(1, 6, 44);
        int[][] due = {{5, 0, 11}, {5, 2, 11}, {5, 3, 22}, {5, 7, 22}, {6, 6, 22}, {6, 7, 44}, {4, 2, 0}, {4, 3, 33},
            {2, 3, 33}, {1, 7, 0}, {100000, 0, 11}, {0, 7, 0}};
        for (int[] d : due) {
            check.due("where(1, " + d[0] + ", " + d[1] + ")", where(x, 1, d[0], d[1]), d[2]);
            if (d[2] != 0) {
                check.due("there(" + d[2] + ", " + d[0] + ", " + d[1] + ")", x.there(d[2], d[0], d[1]), 1);
            }
        }
        check.due("where(1, 5, 8)", where(x, 1, 5, 8), THROWN);
        check.due("there(22, 5, 8)", x.there(22, 5, 8), -1);
    }

    private static void places() {
        RollHouse x = new RollHouse();
        int[] copies = {1, 2, 3, 500, 1000};
        for (int copy : copies) {
            x.line(copy, 10, 50);
        }
        check.due("there(50, 10, 0)", x.there(50, 10, 0), 5);
        check.due("there(50, 9, 0)", x.there(50, 9, 0), 0);
        x.line(1, 12, 50);
        x.line(2, 12, 51);
        x.line(3, 8, 51);
        x.line(500, 10, 0);
        check.due("there(50, 10, 0)", x.there(50, 10, 0), 4);
        check.due("there(50, 12, 0)", x.there(50, 12, 0), 3);
        check.due("there(51, 12, 0)", x.there(51, 12, 0), 1);
        check.due("there(51, 8, 0)", x.there(51, 8, 0), 1);
        check.due("there(50, 8, 0)", x.there(50, 8, 0), 0);
        check.due("there(99, 12, 0)", x.there(99, 12, 0), 0);
        check.due("there(1, 12, 0)", x.there(1, 12, 0), 0);
    }

    private static void farDays() {
        RollHouse x = new RollHouse();
        for (int i = 0; i < 100; i++) {
            x.day(1000);
        }
        x.line(1, 7, 3);
        check.due("where(1, 7, 100000)", where(x, 1, 7, 100000), 3);
        x.day(1);
        x.line(1, 7, 4);
        check.due("where(1, 7, 100000)", where(x, 1, 7, 100000), 3);
        check.due("where(1, 7, 100001)", where(x, 1, 7, 100001), THROWN);
        check.due("there(3, 7, 100000)", x.there(3, 7, 100000), 1);
        check.due("there(4, 7, 100001)", x.there(4, 7, 100001), -1);
        check.due("count(4)", x.count(4), 100001);
    }

    private static void twoHundred() {
        RollHouse x = new RollHouse();
        for (int i = 1; i <= 200; i++) {
            check.due("line " + i, x.line(i * 5, 4, 6), i);
        }
        check.due("a 201st: line(1, 4, 6)", x.line(1, 4, 6), -1);
        check.due("count(3)", x.count(3), 200);
        check.due("there(6, 4, 0)", x.there(6, 4, 0), 200);
        check.due("where(1, 4, 0)", where(x, 1, 4, 0), 0);
        check.due("where(1000, 4, 0)", where(x, 1000, 4, 0), 6);
    }

    private static void counts() {
        RollHouse x = new RollHouse();
        x.roll();
        x.roll();
        x.lay(1, 0, 0, 1);
        x.lay(1, 2, 0, 1);
        x.lay(0, 2, 0, 1);
        x.tempo(0, 4, 4);
        x.tempo(0, 5, 4);
        x.tempo(0, 6, 4);
        x.tempo(1, 6, 4);
        x.item(3, 3);
        x.sight(1, 1, true);
        x.sight(1, 2, true);
        x.line(1, 1, 1);
        x.line(1, 1, 1);
        x.line(1, 1, 1);
        x.day(9);
        int[][] due = {{0, 2}, {1, 1}, {2, 2}, {3, 3}, {4, 9}, {10, 1}, {11, 2}, {20, 3}, {21, 1}};
        for (int[] d : due) {
            check.due("count(" + d[0] + ")", x.count(d[0]), d[1]);
        }
        int[] none = {-1, 5, 6, 7, 8, 9, 12, 13, 14, 15, 16, 17, 18, 19, 22, 23, 25, 26, 27, 30, MAX, MIN};
        for (int what : none) {
            check.due("count(" + what + ")", x.count(what), -1);
        }
        for (int i = 0; i < 4; i++) {
            x.roll();
        }
        check.due("count(15)", x.count(15), 0);
        check.due("count(25)", x.count(25), 0);
        check.due("count(16)", x.count(16), -1);
        check.due("count(26)", x.count(26), -1);
    }
}
