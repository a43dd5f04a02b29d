import java.lang.reflect.InvocationTargetException;
import java.lang.reflect.Method;
import java.util.ArrayList;
import java.util.HashMap;
import java.util.List;
import java.util.Map;
import java.util.NoSuchElementException;
import java.util.Set;
import java.util.stream.Collectors;
import java.util.stream.IntStream;

/**
 * A house under test: each call is told by its name and numbers and held against the answer that
 * is due. Those that changed the house are kept, so that it can be made again without the others.
 */
final class House {
    static final int NONE = -1;
    /** The answer of a call that threw NoSuchElementException. */
    static final int THROWS = Integer.MIN_VALUE;
    /** What a sight tells, as a number. */
    static final int WHOLE = 0;
    static final int FAULTY = 1;
    static final int MIN = Integer.MIN_VALUE;
    static final int MAX = Integer.MAX_VALUE;

    /** Ten pitches of which no four are next to one another. */
    private static final int[] TEN = {0, 1, 2, 4, 5, 6, 8, 9, 10, 12};
    private static final int MOST_CALLS = 512;
    private static final Set<String> CHANGES = Set.of(
            "roll", "lay", "lift", "tempo", "move", "item", "clear", "mend", "sight", "line", "day");
    private static final Map<String, Method> FACE = new HashMap<>();

    static {
        for (Method method : RollHouse.class.getMethods()) {
            if (method.getDeclaringClass() == RollHouse.class) {
                FACE.put(method.getName(), method);
            }
        }
    }

    private record Call(String name, int[] numbers) {
        @Override
        public String toString() {
            return IntStream.of(numbers).mapToObj(Integer::toString)
                    .collect(Collectors.joining(", ", name + "(", ")"));
        }
    }

    private final Check check;
    private final RollHouse house = new RollHouse();
    private final List<Call> changes = new ArrayList<>();
    private int calls = 0;

    House(Check check) {
        this.check = check;
    }

    /** A call whose answer is due. */
    void due(int want, String name, int... numbers) {
        Call call = new Call(name, numbers);
        check.due(call.toString(), answer(call), want);
    }

    /** A call that is to be refused: where throws, each other one answers NONE. */
    void refuses(String name, int... numbers) {
        due(name.equals("where") ? THROWS : NONE, name, numbers);
    }

    void refusesEach(String name, int[]... rows) {
        for (int[] numbers : rows) {
            refuses(name, numbers);
        }
    }

    /**
     * A call that is to be refused when one of its numbers, told by its place, is outside a range:
     * next to it, where a shift or a cast would bring it back in, and at the ends of int.
     */
    void refusesOutside(int least, int greatest, int place, String name, int... numbers) {
        int[] outside = {least - 1, greatest + 1, least - 32, greatest + 32, least + 256, least + 65536,
            MIN, MIN + 1, MAX - 1, MAX};
        for (int number : outside) {
            if (number < least || number > greatest) {
                int[] wrong = numbers.clone();
                wrong[place] = number;
                refuses(name, wrong);
            }
        }
    }

    /** A call that prepares a test: any answer but a refusal. */
    int given(String name, int... numbers) {
        Call call = new Call(name, numbers);
        int answer = answer(call);
        if (answer < 0) {
            check.fail(call + " was refused: " + answer);
        }
        return answer;
    }

    /** A call whose answer is held against another one. */
    int ask(String name, int... numbers) {
        return answer(new Call(name, numbers));
    }

    /** Lays notes of one length: each row is a pitch and a first step. */
    void lays(int roll, int length, int[]... notes) {
        for (int[] note : notes) {
            due(1, "lay", roll, note[0], note[1], length);
        }
    }

    /** Lays as many notes on roll 0 as a step bears. */
    void laysTen(int from, int length) {
        for (int pitch : TEN) {
            due(1, "lay", 0, pitch, from, length);
        }
    }

    /** Lays notes on roll 0, of which twenty have step 7: ten of them as a bridge, ten punched. */
    void laysTwenty() {
        for (int low = 0; low < 20; low += 4) {
            lays(0, 9, new int[] {low, 0}, new int[] {low + 1, 0});
            lays(0, 1, new int[] {low + 2, 7}, new int[] {low + 3, 7});
        }
    }

    /** The notes of a roll are just these, in order: each row is a pitch, a first step and a length. */
    void hasNotes(int roll, int[]... notes) {
        due(notes.length, "count", 10 + roll);
        for (int i = 0; i < notes.length; i++) {
            for (int what = 0; what < 3; what++) {
                due(notes[i][what], "note", roll, i, what);
            }
        }
        due(NONE, "note", roll, notes.length, 0);
    }

    /** The house shows itself as one does that had just the calls that change something. */
    void isAsWithoutOtherCalls() {
        House twin = new House(check);
        for (Call change : changes) {
            twin.answer(change);
        }
        List<String> got = view();
        List<String> want = twin.view();
        check.due("what it shows is as much", got.size(), want.size());
        for (int i = 0; i < got.size() && i < want.size(); i++) {
            check.due(got.get(i) + " is as without the other calls: " + want.get(i),
                    got.get(i).equals(want.get(i)));
        }
    }

    private List<String> view() {
        List<String> seen = new ArrayList<>();
        for (int what = 0; what <= 26; what++) {
            see(seen, "count", what);
        }
        int rolls = ask("count", 0);
        for (int roll = 0; roll < rolls; roll++) {
            viewRoll(seen, roll);
        }
        for (int pitch = 0; pitch < 24; pitch++) {
            see(seen, "since", pitch, 0);
            see(seen, "since", pitch, 1);
        }
        int known = Math.min(ask("count", 4), 100000);
        for (int copy : new int[] {1, 2, 1000}) {
            for (int day : new int[] {0, 5, 100000}) {
                see(seen, "where", copy, day, 0);
                see(seen, "where", copy, day, known);
            }
        }
        return seen;
    }

    private void viewRoll(List<String> seen, int roll) {
        int last = ask("ticks", roll) - 1;
        see(seen, "ticks", roll);
        see(seen, "silent", roll, 0);
        see(seen, "pressure", roll, 0, last);
        see(seen, "pressure", roll, 1, last);
        int notes = ask("count", 10 + roll);
        for (int i = 0; i < notes; i++) {
            for (int what = 0; what < 3; what++) {
                see(seen, "note", roll, i, what);
            }
        }
        for (int what = 0; what < 6; what++) {
            see(seen, "align", roll, what);
        }
        int items = ask("count", 1);
        for (int i = 0; i < items; i++) {
            see(seen, "paired", roll, i);
        }
    }

    private void see(List<String> seen, String name, int... numbers) {
        Call call = new Call(name, numbers);
        seen.add(call + " answered " + answer(call));
    }

    private int answer(Call call) {
        calls++;
        if (calls > MOST_CALLS) {
            check.fail(call + " is one call too many of an object");
        }
        int answer = invoke(call);
        if (answer >= 0 && CHANGES.contains(call.name)) {
            changes.add(call);
        }
        return answer;
    }

    private int invoke(Call call) {
        Method method = FACE.get(call.name);
        Object[] numbers = new Object[call.numbers.length];
        for (int i = 0; i < numbers.length; i++) {
            boolean told = method.getParameterTypes()[i] == boolean.class;
            numbers[i] = told ? (Object) (call.numbers[i] == FAULTY) : (Object) call.numbers[i];
        }
        try {
            Object answer = method.invoke(house, numbers);
            return answer == null ? 0 : (Integer) answer;
        } catch (InvocationTargetException e) {
            if (e.getCause().getClass() != NoSuchElementException.class) {
                check.fail(call + " threw " + e.getCause());
            }
            return THROWS;
        } catch (IllegalAccessException e) {
            throw new IllegalStateException(e);
        }
    }
}
