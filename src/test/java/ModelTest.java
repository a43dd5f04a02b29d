import java.util.NoSuchElementException;
import java.util.Random;

/**
 * All promises: runs of calls drawn with fixed seeds, each answer held against Model's. Every run
 * leans to one part of the house, so that its edges are reached within 512 calls.
 */
public final class ModelTest {
    private static final Check check = new Check("ModelTest");
    private static final int RUNS = 360;
    private static final int CALLS = 512;
    private static final int MOST_CALLS_A_STEP = 5;
    private static final int THROWN = -99;
    private static final int[] ODD = {Integer.MIN_VALUE, Integer.MAX_VALUE, -2, -1, 0, 1, 5, 6, 10, 20, 21, 23, 24,
        60, 61, 99, 100, 299, 300, 1000, 1001, 100000, 100001};

    private final Random random;
    private final RollHouse house = new RollHouse();
    private final Model model = new Model();
    private final int steps;
    private final int pitches;
    private final int longest;
    private int asked = 0;

    private ModelTest(int seed) {
        random = new Random(seed);
        int width = seed / 6 % 4;
        steps = new int[] {12, 60, 300, 24}[width];
        pitches = new int[] {24, 24, 24, 7}[width];
        longest = new int[] {12, 20, 60, 9}[width];
    }

    public static void main(String[] args) {
        for (int run = 0; run < RUNS && check.allRight(); run++) {
            ModelTest test = new ModelTest(run);
            while (test.asked + MOST_CALLS_A_STEP <= CALLS && check.allRight()) {
                test.step(run);
            }
        }
        check.end();
    }

    private void step(int run) {
        if (model.rolls.size() < 3) {
            due(run, "roll", house.roll(), model.roll());
            return;
        }
        boolean anywhere = random.nextInt(8) == 0;
        int part = anywhere ? random.nextInt(6) : run % 6;
        switch (part) {
            case 0: paper(run); break;
            case 1: playing(run); break;
            case 2: score(run); break;
            case 3: punches(run); break;
            case 4: post(run); break;
            default: moving(run); break;
        }
        if (random.nextInt(6) == 0) {
            counted(run);
        }
    }

    private int odd(int usual) {
        return random.nextInt(60) == 0 ? ODD[random.nextInt(ODD.length)] : usual;
    }

    private int up(int bound) {
        return odd(random.nextInt(bound));
    }

    private void due(int run, String call, int got, int want, int... args) {
        asked++;
        check.due("run " + run + " " + call + java.util.Arrays.toString(args), got, want);
    }

    private void lay(int run) {
        int r = up(3);
        int p = up(pitches);
        int s = up(steps);
        int n = odd(1 + random.nextInt(longest));
        due(run, "lay", house.lay(r, p, s, n), model.lay(r, p, s, n), r, p, s, n);
    }

    private void lift(int run) {
        int r = up(3);
        int p = up(pitches);
        int s = up(steps);
        due(run, "lift", house.lift(r, p, s), model.lift(r, p, s), r, p, s);
    }

    private void looks(int run) {
        int r = up(3);
        int p = up(pitches);
        int s = up(steps);
        due(run, "hole", house.hole(r, p, s), model.hole(r, p, s), r, p, s);
        int i = up(60);
        int w = up(3);
        due(run, "note", house.note(r, i, w), model.note(r, i, w), r, i, w);
    }

    private void paper(int run) {
        switch (random.nextInt(8)) {
            case 0: lift(run); break;
            case 1: case 2: looks(run); break;
            default: lay(run); break;
        }
    }

    private void playing(int run) {
        int r = up(3);
        int pedal = random.nextBoolean() ? up(4) : up(21);
        int tick = random.nextBoolean() ? up(80) : up(2700);
        switch (random.nextInt(8)) {
            case 0: {
                int s = up(steps);
                int t = odd(1 + random.nextInt(9));
                due(run, "tempo", house.tempo(r, s, t), model.tempo(r, s, t), r, s, t);
                break;
            }
            case 1: due(run, "ticks", house.ticks(r), model.ticks(r), r); break;
            case 2: due(run, "silent", house.silent(r, pedal), model.silent(r, pedal), r, pedal); break;
            case 3:
                due(run, "sounds", house.sounds(r, pedal, tick), model.sounds(r, pedal, tick), r, pedal, tick);
                break;
            case 4:
                due(run, "pressure", house.pressure(r, pedal, tick), model.pressure(r, pedal, tick), r, pedal, tick);
                break;
            default: lay(run); break;
        }
    }

    private void score(int run) {
        int r = up(3);
        switch (random.nextInt(9)) {
            case 0: case 1: case 2: {
                int p = up(pitches);
                int last = model.items.isEmpty() ? 0 : model.items.get(model.items.size() - 1).step();
                int s = odd(last + random.nextInt(1 + steps / 12));
                due(run, "item", house.item(p, s), model.item(p, s), p, s);
                break;
            }
            case 3: {
                int w = up(6);
                due(run, "align", house.align(r, w), model.align(r, w), r, w);
                break;
            }
            case 4: {
                int i = up(40);
                due(run, "paired", house.paired(r, i), model.paired(r, i), r, i);
                break;
            }
            case 5:
                if (random.nextInt(3) == 0) {
                    due(run, "mend", house.mend(r), model.mend(r), r);
                }
                break;
            case 6:
                if (random.nextInt(20) == 0) {
                    asked++;
                    house.clear();
                    model.clear();
                }
                break;
            default: lay(run); break;
        }
    }

    private void punches(int run) {
        int copy = odd(1 + random.nextInt(1000));
        int p = up(24);
        int w = up(2);
        switch (random.nextInt(4)) {
            case 0: case 1: {
                boolean faulty = random.nextInt(12) == 0 ? random.nextBoolean() : copy > 40 * p;
                due(run, "sight " + faulty, house.sight(copy, p, faulty), model.sight(copy, p, faulty), copy, p);
                break;
            }
            case 2: due(run, "since", house.since(p, w), model.since(p, w), p, w); break;
            default: due(run, "worn", house.worn(copy, w), model.worn(copy, w), copy, w); break;
        }
    }

    private void post(int run) {
        int copy = odd(1 + random.nextInt(8));
        int d = up(10);
        int known = odd(random.nextInt(model.today + 2));
        int place = up(5);
        switch (random.nextInt(5)) {
            case 0: case 1:
                due(run, "line", house.line(copy, d, place), model.line(copy, d, place), copy, d, place);
                break;
            case 2: {
                int n = up(3);
                due(run, "day", house.day(n), model.day(n), n);
                break;
            }
            case 3: due(run, "where", where(copy, d, known), modelWhere(copy, d, known), copy, d, known); break;
            default:
                due(run, "there", house.there(place, d, known), model.there(place, d, known), place, d, known);
                break;
        }
    }

    private int where(int copy, int d, int known) {
        try {
            return house.where(copy, d, known);
        } catch (NoSuchElementException e) {
            return THROWN;
        }
    }

    private int modelWhere(int copy, int d, int known) {
        Integer place = model.where(copy, d, known);
        return place == null ? THROWN : place;
    }

    private void moving(int run) {
        switch (random.nextInt(12)) {
            case 0: {
                int r = up(6);
                int o = up(6);
                due(run, "move", house.move(r, o), model.move(r, o), r, o);
                break;
            }
            case 1: due(run, "roll", house.roll(), model.roll()); break;
            case 2: case 3: looks(run); break;
            case 4: playing(run); break;
            default: lay(run); break;
        }
    }

    /** What is kept, looked at in between, so that a refused call is seen to change nothing. */
    private void counted(int run) {
        int what = odd(random.nextInt(27));
        due(run, "count", house.count(what), model.count(what), what);
        int r = random.nextInt(3);
        int i = random.nextInt(60);
        due(run, "note", house.note(r, i, 0), model.note(r, i, 0), r, i, 0);
        due(run, "note", house.note(r, i, 2), model.note(r, i, 2), r, i, 2);
    }
}
