/** Promise 20: worn. */
public final class Promise20WornTest {
    private static final int ALL = (1 << 24) - 1;
    private static final int SURE = 0;
    private static final int MAY = 1;

    public static void main(String[] args) {
        Check.run(Promise20WornTest.class);
    }

    static void noSuchCopy(Check check) {
        House x = check.house(0);
        x.refusesOutside(1, 1000, 0, "worn", 1, SURE);
        x.refusesOutside(1, 1000, 0, "worn", 1, MAY);
        x.refuses("worn", 1001, MAY);
    }

    static void noSuchWhat(Check check) {
        House x = check.house(0);
        x.refusesOutside(0, 1, 1, "worn", 1, SURE);
        x.refusesOutside(0, 1, 1, "worn", 1000, SURE);
    }

    static void withoutSightsNoneIsSureAndAllMayBe(Check check) {
        House x = check.house(0);
        x.due(0, "worn", 1, SURE);
        x.due(0, "worn", 1000, SURE);
        x.due(ALL, "worn", 1, MAY);
        x.due(ALL, "worn", 1000, MAY);
    }

    static void forSureFromTheGreatestOn(Check check) {
        House x = check.house(0);
        x.given("sight", 400, 7, House.FAULTY);
        x.due(0, "worn", 399, SURE);
        x.due(1 << 7, "worn", 400, SURE);
        x.due(1 << 7, "worn", 401, SURE);
        x.due(1 << 7, "worn", 1000, SURE);
    }

    static void perhapsFromTheLeastOn(Check check) {
        House x = check.house(0);
        x.given("sight", 400, 7, House.WHOLE);
        x.due(ALL - (1 << 7), "worn", 1, MAY);
        x.due(ALL - (1 << 7), "worn", 400, MAY);
        x.due(ALL, "worn", 401, MAY);
        x.due(0, "worn", 1000, SURE);
    }

    static void theFirstCopy(Check check) {
        House x = check.house(0);
        x.given("sight", 1, 0, House.FAULTY);
        x.given("sight", 1, 1, House.WHOLE);
        x.due(1, "worn", 1, SURE);
        x.due(ALL - 2, "worn", 1, MAY);
        x.due(ALL, "worn", 2, MAY);
    }

    static void theLastCopy(Check check) {
        House x = check.house(0);
        x.given("sight", 1000, 5, House.FAULTY);
        x.given("sight", 1000, 23, House.WHOLE);
        x.given("sight", 999, 22, House.WHOLE);
        x.due(0, "worn", 999, SURE);
        x.due(1 << 5, "worn", 1000, SURE);
        x.due(ALL - (1 << 23) - (1 << 22), "worn", 999, MAY);
        x.due(ALL - (1 << 23), "worn", 1000, MAY);
    }

    static void allAreSure(Check check) {
        House x = check.house(0);
        for (int pitch = 0; pitch < 24; pitch++) {
            x.given("sight", 500, pitch, House.FAULTY);
            x.given("sight", 499, pitch, House.WHOLE);
        }
        x.due(0, "worn", 499, SURE);
        x.due(0, "worn", 499, MAY);
        x.due(ALL, "worn", 500, SURE);
        x.due(ALL, "worn", 500, MAY);
    }

    static void thoseThatCantBeAreLeftOut(Check check) {
        House x = check.house(0);
        x.given("sight", 10, 2, House.FAULTY);
        x.given("sight", 10, 2, House.WHOLE);
        x.given("sight", 20, 3, House.FAULTY);
        x.given("sight", 30, 3, House.WHOLE);
        x.given("sight", 10, 4, House.FAULTY);
        for (int copy : new int[] {10, 20, 25, 31, 1000}) {
            x.due(1 << 4, "worn", copy, SURE);
            x.due(ALL - 12, "worn", copy, MAY);
        }
    }

    static void allAreLeftOut(Check check) {
        House x = check.house(0);
        for (int pitch = 0; pitch < 24; pitch++) {
            x.given("sight", 500, pitch, House.FAULTY);
            x.given("sight", 500, pitch, House.WHOLE);
        }
        x.due(0, "worn", 1000, SURE);
        x.due(0, "worn", 1000, MAY);
    }

    static void askingChangesNothing(Check check) {
        House x = check.house(0);
        x.given("sight", 10, 7, House.FAULTY);
        x.due(1 << 7, "worn", 10, SURE);
        x.due(ALL, "worn", 10, MAY);
        x.refuses("worn", 0, SURE);
        x.refuses("worn", 1001, MAY);
        x.refuses("worn", 10, 2);
        x.isAsWithoutOtherCalls();
    }
}
