import java.util.NoSuchElementException;

/**
 * A house that cuts music in paper: its rolls, the player, the score that rolls are held
 * against, the punches and the post of hired copies. README.md says how to use it.
 */
public final class RollHouse {
    public static final int NONE = -1;

    private static final int ROLLS = 6;
    private static final int STEPS = 300;
    private static final int PITCHES = 24;
    private static final int NOTES = 60;
    private static final int LONGEST = 60;
    private static final int ITEMS = 40;
    private static final int MOST_TICKS = 9;
    private static final int MOST_PEDAL = 20;
    private static final int LAST_FIGURE = 5;
    private static final int COPIES = 1000;
    private static final int PLACES = 100;
    private static final int LAST_DAY = 100000;
    private static final int MOST_DAYS_AT_ONCE = 1000;
    private static final int NOTES_OF_ROLL = 10;
    private static final int MARKS_OF_ROLL = 20;

    private final Roll[] rolls;
    private int rollCount;
    private final Player player;
    private final Score score;
    private final Alignment alignment;
    private final Punches punches;
    private final Post post;

    public RollHouse() {
        rolls = new Roll[ROLLS];
        rollCount = 0;
        player = new Player();
        score = new Score();
        alignment = new Alignment();
        punches = new Punches();
        post = new Post();
    }

    public int roll() {
        if (rollCount >= ROLLS) {
            return NONE;
        }
        rolls[rollCount] = new Roll();
        rollCount++;
        return rollCount - 1;
    }

    public int lay(int roll, int pitch, int from, int length) {
        Roll paper = rollOf(roll);
        if (paper == null || !isPitch(pitch) || !isStep(from) || !isWithin(length, 1, LONGEST)) {
            return NONE;
        }
        if (from + length > STEPS || paper.noteCount() >= NOTES) {
            return NONE;
        }
        return paper.putIfAllowed(pitch, from, length);
    }

    public int lift(int roll, int pitch, int step) {
        Roll paper = rollOf(roll);
        if (paper == null || !isPitch(pitch) || !isStep(step)) {
            return NONE;
        }
        return paper.take(pitch, step);
    }

    public int hole(int roll, int pitch, int step) {
        Roll paper = rollOf(roll);
        if (paper == null || !isPitch(pitch) || !isStep(step)) {
            return NONE;
        }
        return paper.kindOfHole(pitch, step);
    }

    public int note(int roll, int i, int what) {
        Roll paper = rollOf(roll);
        if (paper == null || !isWithin(i, 0, paper.noteCount() - 1)) {
            return NONE;
        }
        switch (what) {
            case 0:
                return paper.pitchOf(i);
            case 1:
                return paper.firstStepOf(i);
            case 2:
                return paper.lengthOf(i);
            default:
                return NONE;
        }
    }

    public int tempo(int roll, int step, int ticks) {
        Roll paper = rollOf(roll);
        if (paper == null || !isStep(step) || !isWithin(ticks, 1, MOST_TICKS)) {
            return NONE;
        }
        return paper.mark(step, ticks);
    }

    public int sounds(int roll, int pedal, int tick) {
        return playsTo(roll, pedal, tick) ? player.soundingPitches() : NONE;
    }

    public int pressure(int roll, int pedal, int tick) {
        return playsTo(roll, pedal, tick) ? player.pressureNow() : NONE;
    }

    public int silent(int roll, int pedal) {
        Roll paper = rollOf(roll);
        if (paper == null || !isPedal(pedal)) {
            return NONE;
        }
        player.playAll(paper, pedal);
        return player.mutedTicks();
    }

    public int ticks(int roll) {
        Roll paper = rollOf(roll);
        return paper == null ? NONE : paper.ticksOfAllSteps();
    }

    public int move(int roll, int other) {
        Roll source = rollOf(roll);
        Roll target = rollOf(other);
        if (source == null || target == null || roll == other || target.noteCount() > 0) {
            return NONE;
        }
        target.takeTempoOf(source);
        return target.takeNotesOf(source);
    }

    public int item(int pitch, int step) {
        if (!isPitch(pitch) || !isStep(step)) {
            return NONE;
        }
        return score.append(pitch, step);
    }

    public void clear() {
        score.forgetAll();
    }

    public int align(int roll, int what) {
        Roll paper = rollOf(roll);
        if (paper == null || !isWithin(what, 0, LAST_FIGURE)) {
            return NONE;
        }
        alignment.reckon(paper, score);
        return alignment.figure(what);
    }

    public int paired(int roll, int i) {
        Roll paper = rollOf(roll);
        if (paper == null || !isWithin(i, 0, score.size() - 1)) {
            return NONE;
        }
        alignment.reckon(paper, score);
        return alignment.noteOfItem(i);
    }

    public int mend(int roll) {
        Roll paper = rollOf(roll);
        if (paper == null) {
            return NONE;
        }
        alignment.reckon(paper, score);
        return alignment.repitch(paper, score);
    }

    public int sight(int copy, int pitch, boolean faulty) {
        if (!isCopy(copy) || !isPitch(pitch)) {
            return NONE;
        }
        return punches.see(copy, pitch, faulty);
    }

    public int since(int pitch, int what) {
        if (!isPitch(pitch) || !isWithin(what, 0, 1) || !punches.canBe(pitch)) {
            return NONE;
        }
        return what == 0 ? punches.leastOf(pitch) : punches.greatestOf(pitch);
    }

    public int worn(int copy, int what) {
        if (!isCopy(copy) || !isWithin(what, 0, 1)) {
            return NONE;
        }
        return what == 0 ? punches.surelyWornBy(copy) : punches.perhapsWornBy(copy);
    }

    public int line(int copy, int day, int place) {
        if (!isCopy(copy) || !isDay(day) || !isWithin(place, 0, PLACES - 1)) {
            return NONE;
        }
        return post.tell(copy, day, place);
    }

    public int day(int n) {
        return isWithin(n, 0, MOST_DAYS_AT_ONCE) ? post.letPass(n) : NONE;
    }

    public int where(int copy, int day, int known) throws NoSuchElementException {
        if (!isCopy(copy) || !areDays(day, known)) {
            throw new NoSuchElementException("no such copy or days");
        }
        return post.placeOf(copy, day, known);
    }

    public int there(int place, int day, int known) {
        if (!isWithin(place, 1, PLACES - 1) || !areDays(day, known)) {
            return NONE;
        }
        return post.copiesIn(place, day, known);
    }

    public int count(int what) {
        switch (what) {
            case 0:
                return rollCount;
            case 1:
                return score.size();
            case 2:
                return punches.sightCount();
            case 3:
                return post.lineCount();
            case 4:
                return post.today();
            default:
                return countOfRoll(what);
        }
    }

    private int countOfRoll(int what) {
        if (isWithin(what, MARKS_OF_ROLL, MARKS_OF_ROLL + ROLLS - 1)) {
            Roll marked = rollOf(what - MARKS_OF_ROLL);
            return marked == null ? NONE : marked.markCount();
        }
        if (isWithin(what, NOTES_OF_ROLL, NOTES_OF_ROLL + ROLLS - 1)) {
            Roll noted = rollOf(what - NOTES_OF_ROLL);
            return noted == null ? NONE : noted.noteCount();
        }
        return NONE;
    }

    private boolean playsTo(int roll, int pedal, int tick) {
        Roll paper = rollOf(roll);
        return paper != null && isPedal(pedal) && tick >= 0 && player.playTo(paper, pedal, tick);
    }

    /** The roll of a number, or null where no roll has it. */
    private Roll rollOf(int number) {
        return isWithin(number, 0, rollCount - 1) ? rolls[number] : null;
    }

    private boolean areDays(int day, int known) {
        return isDay(day) && isDay(known) && known <= post.today();
    }

    private static boolean isPitch(int pitch) {
        return isWithin(pitch, 0, PITCHES - 1);
    }

    private static boolean isStep(int step) {
        return isWithin(step, 0, STEPS - 1);
    }

    private static boolean isPedal(int pedal) {
        return isWithin(pedal, 0, MOST_PEDAL);
    }

    private static boolean isCopy(int copy) {
        return isWithin(copy, 1, COPIES);
    }

    private static boolean isDay(int day) {
        return isWithin(day, 0, LAST_DAY);
    }

    private static boolean isWithin(int number, int least, int greatest) {
        return number >= least && number <= greatest;
    }

    /**
     * A roll of paper: its notes in order, its tempo, and what each step of the paper holds.
     * Pitches and steps that come in have been tested by the house.
     */
    private static final class Roll {
        private static final int LAID = 1;
        private static final int TOO_NEAR = -2;
        private static final int NOT_BORNE = -3;
        private static final int MOST_PUNCHED = 10;
        private static final int BRIDGE_EVERY = 8;
        private static final int MARKS = 10;
        private static final int FIRST_TICKS = 2;
        private static final int LOWEST_SMALL = 4;
        private static final int HIGHEST_SMALL = 19;
        private static final int OCTAVE = 12;

        private final int[] pitches;
        private final int[] firstSteps;
        private final int[] lengths;
        private int size;
        // By step, pitches as bits: those that have a note there, and those that are punched.
        private final int[] held;
        private final int[] punched;
        // By step, the ticks that a mark gives from there on; 0 where there is no mark.
        private final int[] markedTicks;
        private int marks;

        Roll() {
            pitches = new int[NOTES];
            firstSteps = new int[NOTES];
            lengths = new int[NOTES];
            size = 0;
            held = new int[STEPS];
            punched = new int[STEPS];
            markedTicks = new int[STEPS];
            marks = 0;
        }

        int noteCount() {
            return size;
        }

        int pitchOf(int i) {
            return pitches[i];
        }

        int firstStepOf(int i) {
            return firstSteps[i];
        }

        int lengthOf(int i) {
            return lengths[i];
        }

        int pitchesIn(int step) {
            return held[step];
        }

        int markCount() {
            return marks;
        }

        int kindOfHole(int pitch, int step) {
            int bit = 1 << pitch;
            if ((punched[step] & bit) != 0) {
                return 1;
            }
            return (held[step] & bit) != 0 ? 2 : 0;
        }

        int putIfAllowed(int pitch, int from, int length) {
            if (isTooNear(pitch, from, length)) {
                return TOO_NEAR;
            }
            if (!isBorne(pitch, from, length)) {
                return NOT_BORNE;
            }
            put(pitch, from, length);
            return LAID;
        }

        private boolean isTooNear(int pitch, int from, int length) {
            int begin = Math.max(from - 1, 0);
            int end = Math.min(from + length, STEPS - 1);
            for (int step = begin; step <= end; step++) {
                if ((held[step] >> pitch & 1) != 0) {
                    return true;
                }
            }
            return false;
        }

        private boolean isBorne(int pitch, int from, int length) {
            for (int k = 0; k < length; k++) {
                if (!isBridge(k, length) && !bears(punched[from + k] | 1 << pitch)) {
                    return false;
                }
            }
            return true;
        }

        private static boolean bears(int row) {
            int fourInARow = row & row >> 1 & row >> 2 & row >> 3;
            return fourInARow == 0 && Integer.bitCount(row) <= MOST_PUNCHED;
        }

        private static boolean isBridge(int k, int length) {
            return k % BRIDGE_EVERY == BRIDGE_EVERY - 1 && k != length - 1;
        }

        private void put(int pitch, int from, int length) {
            if (size >= NOTES) {
                return;
            }
            int at = size;
            while (at > 0 && comesAhead(pitch, from, at - 1)) {
                setNote(at, pitches[at - 1], firstSteps[at - 1], lengths[at - 1]);
                at--;
            }
            setNote(at, pitch, from, length);
            size++;
            for (int k = 0; k < length; k++) {
                held[from + k] |= 1 << pitch;
                if (!isBridge(k, length)) {
                    punched[from + k] |= 1 << pitch;
                }
            }
        }

        private boolean comesAhead(int pitch, int from, int i) {
            return from < firstSteps[i] || from == firstSteps[i] && pitch < pitches[i];
        }

        private void setNote(int i, int pitch, int from, int length) {
            pitches[i] = pitch;
            firstSteps[i] = from;
            lengths[i] = length;
        }

        /** Takes off the note that has the step: its length, or NONE without such a note. */
        int take(int pitch, int step) {
            int at = noteWith(pitch, step);
            if (at == NONE) {
                return NONE;
            }
            int from = firstSteps[at];
            int length = lengths[at];
            size--;
            for (int i = at; i < size; i++) {
                setNote(i, pitches[i + 1], firstSteps[i + 1], lengths[i + 1]);
            }
            int others = ~(1 << pitch);
            for (int k = 0; k < length; k++) {
                held[from + k] &= others;
                punched[from + k] &= others;
            }
            return length;
        }

        private int noteWith(int pitch, int step) {
            for (int i = 0; i < size; i++) {
                if (pitches[i] == pitch && isWithin(step - firstSteps[i], 0, lengths[i] - 1)) {
                    return i;
                }
            }
            return NONE;
        }

        /** Gives the note that begins at a step another pitch, if it may be laid there. */
        boolean moveToPitch(int pitch, int from, int newPitch) {
            int length = take(pitch, from);
            if (length == NONE) {
                return false;
            }
            if (putIfAllowed(newPitch, from, length) == LAID) {
                return true;
            }
            put(pitch, from, length);
            return false;
        }

        int mark(int step, int ticks) {
            if (markedTicks[step] == 0) {
                if (marks >= MARKS) {
                    return NONE;
                }
                marks++;
            }
            markedTicks[step] = ticks;
            return marks;
        }

        /** The ticks of a step, where the step ahead of it has so many (step 0: any number). */
        int ticksOf(int step, int ticksAhead) {
            if (markedTicks[step] != 0) {
                return markedTicks[step];
            }
            return step == 0 ? FIRST_TICKS : ticksAhead;
        }

        int ticksOfAllSteps() {
            int all = 0;
            int ticks = 0;
            for (int step = 0; step < STEPS; step++) {
                ticks = ticksOf(step, ticks);
                all += ticks;
            }
            return all;
        }

        void takeTempoOf(Roll source) {
            System.arraycopy(source.markedTicks, 0, markedTicks, 0, STEPS);
            marks = source.marks;
        }

        /** Lays the other roll's notes on this empty one within the small bar: how many are dropped. */
        int takeNotesOf(Roll source) {
            int dropped = 0;
            for (int i = 0; i < source.size; i++) {
                int pitch = onSmallBar(source.pitches[i]);
                if (putIfAllowed(pitch, source.firstSteps[i], source.lengths[i]) != LAID) {
                    dropped++;
                }
            }
            return dropped;
        }

        private static int onSmallBar(int pitch) {
            if (pitch < LOWEST_SMALL) {
                return pitch + OCTAVE;
            }
            return pitch > HIGHEST_SMALL ? pitch - OCTAVE : pitch;
        }
    }

    /** The player: plays a roll from its beginning to a tick, and shows itself as it is then. */
    private static final class Player {
        private static final int FULL = 100;
        private static final int AT_FIRST = 50;
        private static final int ENOUGH = 8;
        private static final int NEVER = -1;

        private int pressure;
        private int sounding;
        private int muted;

        Player() {
            pressure = AT_FIRST;
            sounding = 0;
            muted = 0;
        }

        int pressureNow() {
            return pressure;
        }

        int soundingPitches() {
            return sounding;
        }

        int mutedTicks() {
            return muted;
        }

        void playAll(Roll roll, int pedal) {
            playTo(roll, pedal, NEVER);
        }

        /** Stops as the tick begins; false where the roll ends ahead of it. */
        boolean playTo(Roll roll, int pedal, int tick) {
            pressure = AT_FIRST;
            muted = 0;
            int now = 0;
            int ticks = 0;
            for (int step = 0; step < STEPS; step++) {
                ticks = roll.ticksOf(step, ticks);
                int pitches = roll.pitchesIn(step);
                for (int k = 0; k < ticks; k++) {
                    sounding = pressure >= ENOUGH ? pitches : 0;
                    if (now == tick) {
                        return true;
                    }
                    if (sounding != pitches) {
                        muted++;
                    }
                    int next = pressure + pedal - Integer.bitCount(sounding);
                    pressure = Math.max(0, Math.min(FULL, next));
                    now++;
                }
            }
            return false;
        }
    }

    /** The score: its items in the order in which they came. */
    private static final class Score {
        private final int[] pitches;
        private final int[] steps;
        private int size;

        Score() {
            pitches = new int[ITEMS];
            steps = new int[ITEMS];
            size = 0;
        }

        int size() {
            return size;
        }

        int pitchOf(int i) {
            return pitches[i];
        }

        int stepOf(int i) {
            return steps[i];
        }

        int append(int pitch, int step) {
            if (size >= ITEMS || size > 0 && step < steps[size - 1]) {
                return NONE;
            }
            pitches[size] = pitch;
            steps[size] = step;
            size++;
            return size - 1;
        }

        void forgetAll() {
            size = 0;
        }
    }

    /** The least alignment of a roll and the score, as they were when it was reckoned last. */
    private static final class Alignment {
        private static final int ALONE = 5;
        private static final int PITCH_WEIGHT = 2;
        private static final int MOST_FOR_STEPS = 4;
        private static final int ROW = ITEMS + 1;

        // The notes are kept apart, since mending changes their order on the roll.
        private final int[] notePitches;
        private final int[] noteSteps;
        private final int[] noteOfItem;
        // The least cost of the notes and items from a note and an item on. It is reckoned from
        // the end, so that the choice among alignments of least cost can go from the beginning.
        private final int[] restCost;
        private int notes;
        private int items;
        private int pairs;
        private int pitchesDiffer;
        private int stepsDiffer;

        Alignment() {
            notePitches = new int[NOTES];
            noteSteps = new int[NOTES];
            noteOfItem = new int[ITEMS];
            restCost = new int[(NOTES + 1) * ROW];
        }

        void reckon(Roll roll, Score score) {
            notes = roll.noteCount();
            for (int i = 0; i < notes; i++) {
                notePitches[i] = roll.pitchOf(i);
                noteSteps[i] = roll.firstStepOf(i);
            }
            items = score.size();
            reckonCosts(score);
            choose(score);
        }

        int noteOfItem(int j) {
            return noteOfItem[j];
        }

        int figure(int what) {
            switch (what) {
                case 0:
                    return restCost[0];
                case 1:
                    return pairs;
                case 2:
                    return items - pairs;
                case 3:
                    return notes - pairs;
                case 4:
                    return pitchesDiffer;
                case 5:
                    return stepsDiffer;
                default:
                    return NONE;
            }
        }

        /** Mends the roll that was reckoned: how many of its notes have another pitch then. */
        int repitch(Roll roll, Score score) {
            int mended = 0;
            for (int j = 0; j < items; j++) {
                int i = noteOfItem[j];
                if (i != NONE && notePitches[i] != score.pitchOf(j)
                        && roll.moveToPitch(notePitches[i], noteSteps[i], score.pitchOf(j))) {
                    mended++;
                }
            }
            return mended;
        }

        private void reckonCosts(Score score) {
            for (int i = notes; i >= 0; i--) {
                for (int j = items; j >= 0; j--) {
                    restCost[i * ROW + j] = leastFrom(i, j, score);
                }
            }
        }

        private int leastFrom(int i, int j, Score score) {
            if (i == notes) {
                return (items - j) * ALONE;
            }
            if (j == items) {
                return (notes - i) * ALONE;
            }
            int alone = ALONE + Math.min(restCost[i * ROW + j + 1], restCost[(i + 1) * ROW + j]);
            return Math.min(alone, costFromPair(i, j, score));
        }

        private int costFromPair(int i, int j, Score score) {
            int pitchCost = PITCH_WEIGHT * Math.abs(notePitches[i] - score.pitchOf(j));
            int stepCost = Math.min(MOST_FOR_STEPS, Math.abs(noteSteps[i] - score.stepOf(j)));
            return pitchCost + stepCost + restCost[(i + 1) * ROW + j + 1];
        }

        private void choose(Score score) {
            pairs = 0;
            pitchesDiffer = 0;
            stepsDiffer = 0;
            int i = 0;
            int j = 0;
            // Each round is done with a note, an item or both; notes behind the last item are extra.
            for (int round = notes + items; round > 0 && j < items; round--) {
                int least = restCost[i * ROW + j];
                if (i < notes && costFromPair(i, j, score) == least) {
                    pair(i, j, score);
                    i++;
                    j++;
                } else if (i == notes || ALONE + restCost[i * ROW + j + 1] == least) {
                    noteOfItem[j] = NONE;
                    j++;
                } else {
                    i++;
                }
            }
        }

        private void pair(int i, int j, Score score) {
            noteOfItem[j] = i;
            pairs++;
            if (notePitches[i] != score.pitchOf(j)) {
                pitchesDiffer++;
            }
            if (noteSteps[i] != score.stepOf(j)) {
                stepsDiffer++;
            }
        }
    }

    /** The punches: of each pitch, what all sights together leave of the copies it may be worn from. */
    private static final class Punches {
        private static final int SIGHTS = 200;
        private static final int NOT_WORN = COPIES + 1;

        private final int[] least;
        private final int[] greatest;
        private int sights;

        Punches() {
            least = new int[PITCHES];
            greatest = new int[PITCHES];
            for (int pitch = 0; pitch < PITCHES; pitch++) {
                least[pitch] = 1;
                greatest[pitch] = NOT_WORN;
            }
            sights = 0;
        }

        int sightCount() {
            return sights;
        }

        int see(int copy, int pitch, boolean faulty) {
            if (sights >= SIGHTS) {
                return NONE;
            }
            if (faulty) {
                greatest[pitch] = Math.min(greatest[pitch], copy);
            } else {
                least[pitch] = Math.max(least[pitch], copy + 1);
            }
            sights++;
            return sights;
        }

        boolean canBe(int pitch) {
            return least[pitch] <= greatest[pitch];
        }

        int leastOf(int pitch) {
            return least[pitch];
        }

        int greatestOf(int pitch) {
            return greatest[pitch];
        }

        int surelyWornBy(int copy) {
            return notBehind(greatest, copy);
        }

        int perhapsWornBy(int copy) {
            return notBehind(least, copy);
        }

        private int notBehind(int[] since, int copy) {
            int bits = 0;
            for (int pitch = 0; pitch < PITCHES; pitch++) {
                if (canBe(pitch) && since[pitch] <= copy) {
                    bits |= 1 << pitch;
                }
            }
            return bits;
        }
    }

    /** The post: the day at hand, and the lines in the order in which they were told. */
    private static final class Post {
        private static final int LINES = 200;

        private final int[] copies;
        private final int[] days;
        private final int[] places;
        private final int[] toldOn;
        private int size;
        private int today;
        // By copy, while copies are counted: the line that tells where it was.
        private final int[] lineOfCopy;

        Post() {
            copies = new int[LINES];
            days = new int[LINES];
            places = new int[LINES];
            toldOn = new int[LINES];
            size = 0;
            today = 0;
            lineOfCopy = new int[COPIES + 1];
        }

        int lineCount() {
            return size;
        }

        int today() {
            return today;
        }

        int letPass(int n) {
            today += n;
            return today;
        }

        int tell(int copy, int day, int place) {
            if (size >= LINES) {
                return NONE;
            }
            copies[size] = copy;
            days[size] = day;
            places[size] = place;
            toldOn[size] = today;
            size++;
            return size;
        }

        int placeOf(int copy, int day, int known) {
            int best = NONE;
            for (int i = 0; i < size; i++) {
                if (copies[i] == copy && counts(i, day, known) && standsInPlaceOf(i, best)) {
                    best = i;
                }
            }
            return best == NONE ? 0 : places[best];
        }

        int copiesIn(int place, int day, int known) {
            for (int i = 0; i < size; i++) {
                lineOfCopy[copies[i]] = NONE;
            }
            for (int i = 0; i < size; i++) {
                if (counts(i, day, known) && standsInPlaceOf(i, lineOfCopy[copies[i]])) {
                    lineOfCopy[copies[i]] = i;
                }
            }
            int found = 0;
            for (int i = 0; i < size; i++) {
                if (lineOfCopy[copies[i]] == i && places[i] == place) {
                    found++;
                }
            }
            return found;
        }

        private boolean counts(int i, int day, int known) {
            return toldOn[i] <= known && days[i] <= day;
        }

        /** Whether line i, told later, is to be taken instead of another one (or of none). */
        private boolean standsInPlaceOf(int i, int other) {
            return other == NONE || days[i] >= days[other];
        }
    }
}
