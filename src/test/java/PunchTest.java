/** Promises 18 to 20: sight, since, worn. */
public final class PunchTest {
    private static final Check check = new Check("PunchTest");
    private static final int ALL = (1 << 24) - 1;
    private static final int MIN = Integer.MIN_VALUE;
    private static final int MAX = Integer.MAX_VALUE;

    public static void main(String[] args) {
        wrongNumbers();
        narrowing();
        ends();
        contradiction();
        twoHundred();
        check.end();
    }

    private static void wrongNumbers() {
        RollHouse x = new RollHouse();
        int[][] wrong = {{0, 0}, {1001, 0}, {-1, 0}, {1, -1}, {1, 24}, {MAX, 0}, {MIN, 0}, {1, MAX}, {1, MIN}};
        for (int[] w : wrong) {
            check.due("sight" + java.util.Arrays.toString(w), x.sight(w[0], w[1], true), -1);
            check.due("sight" + java.util.Arrays.toString(w), x.sight(w[0], w[1], false), -1);
        }
        check.due("count(2)", x.count(2), 0);
        int[][] since = {{-1, 0}, {24, 0}, {0, 2}, {0, -1}, {MAX, 0}, {0, MIN}};
        for (int[] w : since) {
            check.due("since" + java.util.Arrays.toString(w), x.since(w[0], w[1]), -1);
        }
        int[][] worn = {{0, 0}, {1001, 0}, {1, 2}, {1, -1}, {MIN, 1}, {1, MAX}};
        for (int[] w : worn) {
            check.due("worn" + java.util.Arrays.toString(w), x.worn(w[0], w[1]), -1);
        }
        check.due("worn(1, 0)", x.worn(1, 0), 0);
        check.due("worn(1000, 0)", x.worn(1000, 0), 0);
        check.due("worn(1, 1)", x.worn(1, 1), ALL);
        check.due("worn(1000, 1)", x.worn(1000, 1), ALL);
    }

    private static void narrowing() {
        RollHouse x = new RollHouse();
        check.due("sight(500, 7, true)", x.sight(500, 7, true), 1);
        check.due("since(7, 0)", x.since(7, 0), 1);
        check.due("since(7, 1)", x.since(7, 1), 500);
        check.due("sight(600, 7, true)", x.sight(600, 7, true), 2);
        check.due("since(7, 1)", x.since(7, 1), 500);
        check.due("sight(400, 7, true)", x.sight(400, 7, true), 3);
        check.due("since(7, 1)", x.since(7, 1), 400);
        check.due("sight(100, 7, false)", x.sight(100, 7, false), 4);
        check.due("since(7, 0)", x.since(7, 0), 101);
        check.due("sight(50, 7, false)", x.sight(50, 7, false), 5);
        check.due("since(7, 0)", x.since(7, 0), 101);
        check.due("sight(399, 7, false)", x.sight(399, 7, false), 6);
        check.due("since(7, 0)", x.since(7, 0), 400);
        check.due("since(7, 1)", x.since(7, 1), 400);
        check.due("since(8, 0)", x.since(8, 0), 1);
        check.due("since(8, 1)", x.since(8, 1), 1001);
        check.due("worn(399, 0)", x.worn(399, 0), 0);
        check.due("worn(400, 0)", x.worn(400, 0), 1 << 7);
        check.due("worn(1000, 0)", x.worn(1000, 0), 1 << 7);
        check.due("worn(399, 1)", x.worn(399, 1), ALL - (1 << 7));
        check.due("worn(400, 1)", x.worn(400, 1), ALL);
    }

    private static void ends() {
        RollHouse x = new RollHouse();
        x.sight(1000, 23, false);
        check.due("never worn: since(23, 0)", x.since(23, 0), 1001);
        check.due("never worn: since(23, 1)", x.since(23, 1), 1001);
        check.due("worn(1000, 1)", x.worn(1000, 1), ALL - (1 << 23));
        x.sight(1, 0, true);
        check.due("from the first: since(0, 0)", x.since(0, 0), 1);
        check.due("from the first: since(0, 1)", x.since(0, 1), 1);
        check.due("worn(1, 0)", x.worn(1, 0), 1);
        x.sight(1000, 5, true);
        check.due("since(5, 1)", x.since(5, 1), 1000);
        check.due("worn(999, 0)", x.worn(999, 0), 1);
        check.due("worn(1000, 0)", x.worn(1000, 0), 1 + (1 << 5));
    }

    private static void contradiction() {
        RollHouse x = new RollHouse();
        x.sight(10, 2, true);
        x.sight(10, 2, false);
        check.due("since(2, 0)", x.since(2, 0), -1);
        check.due("since(2, 1)", x.since(2, 1), -1);
        check.due("worn(1000, 0)", x.worn(1000, 0), 0);
        check.due("worn(1000, 1)", x.worn(1000, 1), ALL - 4);
        check.due("it stays: sight(5, 2, false)", x.sight(5, 2, false), 3);
        check.due("since(2, 0)", x.since(2, 0), -1);
        x.sight(20, 3, true);
        x.sight(30, 3, false);
        check.due("since(3, 1)", x.since(3, 1), -1);
        check.due("worn(25, 0)", x.worn(25, 0), 0);
        check.due("worn(40, 1)", x.worn(40, 1), ALL - 12);
    }

    private static void twoHundred() {
        RollHouse x = new RollHouse();
        for (int i = 1; i <= 200; i++) {
            check.due("sight " + i, x.sight(500, i % 24, true), i);
        }
        check.due("a 201st: sight(1, 0, true)", x.sight(1, 0, true), -1);
        check.due("a 201st: sight(400, 1, false)", x.sight(400, 1, false), -1);
        check.due("count(2)", x.count(2), 200);
        check.due("since(0, 1)", x.since(0, 1), 500);
        check.due("since(1, 0)", x.since(1, 0), 1);
        check.due("worn(500, 0)", x.worn(500, 0), ALL);
    }
}
