import java.lang.reflect.InvocationTargetException;
import java.lang.reflect.Method;
import java.lang.reflect.Modifier;
import java.util.Arrays;
import java.util.Comparator;

/** Holds answers against those that are due, prints the wrong ones, and ends a test. */
final class Check {
    private final String name;
    private String part = "";
    private int tests = 0;
    private int asked = 0;
    private int wrong = 0;

    Check(String name) {
        this.name = name;
    }

    /**
     * Runs the tests of a class, each a static method that takes a Check, and ends. They are found
     * by their form, so that none is forgotten.
     */
    static void run(Class<?> tests) {
        Check check = new Check(tests.getName());
        Method[] methods = tests.getDeclaredMethods();
        Arrays.sort(methods, Comparator.comparing(Method::getName));
        for (Method method : methods) {
            if (isTest(method)) {
                check.runOne(method);
            }
        }
        check.end();
    }

    private static boolean isTest(Method method) {
        return Modifier.isStatic(method.getModifiers()) && !Modifier.isPrivate(method.getModifiers())
                && Arrays.equals(method.getParameterTypes(), new Class<?>[] {Check.class});
    }

    private void runOne(Method method) {
        tests++;
        part = "." + method.getName();
        int before = asked;
        try {
            method.invoke(null, this);
        } catch (InvocationTargetException e) {
            fail("it threw " + e.getCause());
        } catch (IllegalAccessException e) {
            fail("it can't be run");
        }
        if (asked == before) {
            fail("it asked nothing");
        }
        part = "";
    }

    /** A new house that has so many rolls. */
    House house(int rolls) {
        House house = new House(this);
        for (int i = 0; i < rolls; i++) {
            house.due(i, "roll");
        }
        return house;
    }

    /** A new house with a roll of one tick a step, where ten pitches have notes from step 0 on. */
    House houseWithTen(int length) {
        House house = house(1);
        house.given("tempo", 0, 0, 1);
        house.laysTen(0, length);
        return house;
    }

    void due(String call, long got, long want) {
        asked++;
        if (got != want) {
            fail(call + " answered " + got + ", due is " + want);
        }
    }

    void due(String call, boolean holds) {
        due(call, holds ? 1 : 0, 1);
    }

    void fail(String what) {
        wrong++;
        System.out.println(name + part + ": " + what);
    }

    boolean allRight() {
        return wrong == 0;
    }

    void end() {
        String ran = tests == 0 ? "" : tests + " tests, ";
        System.out.println(name + ": " + ran + asked + " answers, " + wrong + " wrong");
        if (wrong != 0 || asked == 0) {
            System.exit(1);
        }
    }
}
