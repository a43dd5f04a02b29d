/** Promise 18: sight. */
public final class Promise18SightTest {
    public static void main(String[] args) {
        Check.run(Promise18SightTest.class);
    }

    static void copiesAre1To1000(Check check) {
        House x = check.house(0);
        x.refusesOutside(1, 1000, 0, "sight", 1, 5, House.FAULTY);
        x.refusesOutside(1, 1000, 0, "sight", 1, 5, House.WHOLE);
        x.due(0, "count", 2);
        x.due(1, "sight", 1000, 5, House.FAULTY);
        x.due(2, "sight", 1, 5, House.WHOLE);
        x.due(2, "since", 5, 0);
        x.due(1000, "since", 5, 1);
    }

    static void pitchesAre0To23(Check check) {
        House x = check.house(0);
        x.refusesOutside(0, 23, 1, "sight", 10, 0, House.FAULTY);
        x.refusesOutside(0, 23, 1, "sight", 10, 0, House.WHOLE);
        x.due(0, "count", 2);
        x.due(1, "sight", 10, 0, House.FAULTY);
        x.due(2, "sight", 20, 23, House.FAULTY);
        x.due(10, "since", 0, 1);
        x.due(20, "since", 23, 1);
    }

    static void twoHundredAreThere(Check check) {
        House x = check.house(0);
        for (int i = 1; i <= 200; i++) {
            x.due(i, "sight", 500, i % 24, House.FAULTY);
        }
        x.refuses("sight", 500, 0, House.FAULTY);
        x.refuses("sight", 1, 0, House.WHOLE);
        x.due(200, "count", 2);
    }

    static void oneThatTellsNothingNewCountsToo(Check check) {
        House x = check.house(0);
        x.due(1, "sight", 10, 4, House.FAULTY);
        x.due(2, "sight", 10, 4, House.FAULTY);
        x.due(3, "sight", 11, 4, House.FAULTY);
        x.due(10, "since", 4, 1);
    }

    static void oneThatCantBeCountsToo(Check check) {
        House x = check.house(0);
        x.due(1, "sight", 10, 4, House.FAULTY);
        x.due(2, "sight", 10, 4, House.WHOLE);
        x.due(3, "sight", 12, 4, House.WHOLE);
        x.due(3, "count", 2);
    }

    static void aRefusedSightChangesNothing(Check check) {
        House x = check.house(0);
        x.given("sight", 500, 0, House.FAULTY);
        x.given("sight", 400, 23, House.WHOLE);
        for (int told = House.WHOLE; told <= House.FAULTY; told++) {
            x.refusesEach("sight", new int[][] {{0, 0, told}, {1001, 23, told}, {-1, 0, told}, {450, -1, told},
                {450, 24, told}, {450, 32, told}, {House.MIN, 23, told}, {House.MAX, 0, told}});
        }
        x.isAsWithoutOtherCalls();
    }

    static void aRefused201stChangesNothing(Check check) {
        House x = check.house(0);
        for (int i = 1; i <= 200; i++) {
            x.given("sight", 500, i % 23, House.FAULTY);
        }
        x.refuses("sight", 1, 0, House.FAULTY);
        x.refuses("sight", 400, 1, House.WHOLE);
        x.refuses("sight", 400, 23, House.WHOLE);
        x.due(500, "since", 0, 1);
        x.due(1, "since", 1, 0);
        x.isAsWithoutOtherCalls();
    }
}
