/** Promise 1: a new object. */
public final class Promise01NewObjectTest {
    public static void main(String[] args) {
        Check.run(Promise01NewObjectTest.class);
    }

    static void noRollsAreThereYet(Check check) {
        House x = check.house(0);
        x.due(0, "count", 0);
        for (int r = 0; r < 6; r++) {
            x.refuses("count", 10 + r);
            x.refuses("count", 20 + r);
            x.refuses("ticks", r);
        }
        x.refuses("lay", 0, 0, 0, 1);
        x.refuses("lift", 0, 0, 0);
        x.refuses("hole", 0, 0, 0);
        x.refuses("note", 0, 0, 0);
        x.refuses("tempo", 0, 0, 1);
        x.refuses("sounds", 0, 0, 0);
        x.refuses("pressure", 0, 0, 0);
        x.refuses("silent", 0, 0);
        x.refuses("move", 0, 1);
        x.refuses("align", 0, 0);
        x.refuses("paired", 0, 0);
        x.refuses("mend", 0);
        x.due(0, "roll");
    }

    static void noItemsAreThereYet(Check check) {
        House x = check.house(1);
        x.due(0, "count", 1);
        x.due(0, "align", 0, 2);
        x.refuses("paired", 0, 0);
        x.due(0, "item", 0, 0);
    }

    static void noSightsAreThereYet(Check check) {
        House x = check.house(0);
        x.due(0, "count", 2);
        for (int pitch = 0; pitch < 24; pitch++) {
            x.due(1, "since", pitch, 0);
            x.due(1001, "since", pitch, 1);
        }
        x.due(1, "sight", 1, 0, House.FAULTY);
    }

    static void noLinesAreThereYet(Check check) {
        House x = check.house(0);
        x.due(0, "count", 3);
        x.due(0, "where", 1, 0, 0);
        x.due(0, "where", 1000, 100000, 0);
        for (int place = 1; place < 100; place++) {
            x.due(0, "there", place, 100000, 0);
        }
        x.due(1, "line", 1, 0, 1);
    }

    static void theDayIs0(Check check) {
        House x = check.house(0);
        x.due(0, "count", 4);
        x.due(0, "where", 1, 0, 0);
        x.refuses("where", 1, 0, 1);
        x.due(0, "there", 1, 0, 0);
        x.refuses("there", 1, 0, 1);
        x.due(0, "day", 0);
    }

    static void anotherObjectIsNewToo(Check check) {
        House x = check.house(2);
        x.given("lay", 0, 5, 0, 9);
        x.given("tempo", 0, 0, 9);
        x.given("item", 4, 5);
        x.given("sight", 10, 3, House.FAULTY);
        x.given("line", 1, 0, 7);
        x.given("day", 8);
        House y = check.house(0);
        for (int what = 0; what <= 4; what++) {
            y.due(0, "count", what);
        }
        y.due(1001, "since", 3, 1);
        y.due(0, "where", 1, 0, 0);
        y.due(0, "roll");
        y.due(0, "count", 10);
        y.due(600, "ticks", 0);
        y.due(0, "hole", 0, 5, 0);
        x.due(2, "count", 0);
        x.due(1, "count", 10);
        x.due(8, "count", 4);
    }

    static void the512thCallIsAnsweredStill(Check check) {
        House x = check.house(1);
        for (int i = 0; i < 254; i++) {
            x.due(1, "lay", 0, 5, i, 9);
            x.due(9, "lift", 0, 5, i);
        }
        x.due(1, "lay", 0, 5, 291, 9);
        x.due(0, "count", 1);
        x.due(1, "count", 10);
    }
}
