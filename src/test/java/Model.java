import java.util.ArrayList;
import java.util.Comparator;
import java.util.HashMap;
import java.util.List;
import java.util.Map;
import java.util.TreeMap;

/**
 * The document told once more, as plainly as the Java library lets it be told and in other ways
 * than the program's: every answer is reckoned anew from lists of what has been laid and told.
 */
final class Model {
    record Note(int pitch, int first, int length) {
        boolean has(int step) {
            return step >= first && step < first + length;
        }

        boolean punchedAt(int step) {
            int k = step - first;
            return has(step) && !(k >= 7 && (k - 7) % 8 == 0 && k < length - 1);
        }
    }

    record Item(int pitch, int step) { }

    record Sight(int copy, int pitch, boolean faulty) { }

    record Line(int copy, int day, int place, int told) { }

    /** An alignment from some note and item on: each of its letters is a (pair), b (missed), c (extra). */
    record Way(int cost, String letters) {
        Way behind(char letter, int more) {
            return new Way(cost + more, letter + letters);
        }
    }

    static final class Paper {
        final List<Note> notes = new ArrayList<>();
        final TreeMap<Integer, Integer> tempo = new TreeMap<>();

        void sort() {
            notes.sort(Comparator.comparingInt(Note::first).thenComparingInt(Note::pitch));
        }
    }

    final List<Paper> rolls = new ArrayList<>();
    final List<Item> items = new ArrayList<>();
    final List<Sight> sights = new ArrayList<>();
    final List<Line> lines = new ArrayList<>();
    int today = 0;

    private static boolean in(int n, int least, int greatest) {
        return least <= n && n <= greatest;
    }

    private Paper paper(int roll) {
        return in(roll, 0, rolls.size() - 1) ? rolls.get(roll) : null;
    }

    int roll() {
        if (rolls.size() == 6) {
            return -1;
        }
        rolls.add(new Paper());
        return rolls.size() - 1;
    }

    int lay(int roll, int pitch, int from, int length) {
        Paper p = paper(roll);
        if (p == null || !in(pitch, 0, 23) || !in(from, 0, 299) || !in(length, 1, 60)
                || from + length - 1 > 299 || p.notes.size() == 60) {
            return -1;
        }
        return layOn(p, new Note(pitch, from, length));
    }

    private static int layOn(Paper p, Note n) {
        for (Note o : p.notes) {
            if (o.pitch == n.pitch && n.first <= o.first + o.length && o.first <= n.first + n.length) {
                return -2;
            }
        }
        List<Note> all = new ArrayList<>(p.notes);
        all.add(n);
        for (int step = 0; step < 300; step++) {
            if (!borne(all, step)) {
                return -3;
            }
        }
        p.notes.add(n);
        p.sort();
        return 1;
    }

    private static boolean borne(List<Note> notes, int step) {
        boolean[] row = new boolean[24];
        for (Note n : notes) {
            row[n.pitch] |= n.punchedAt(step);
        }
        int punched = 0;
        int run = 0;
        for (boolean hole : row) {
            punched += hole ? 1 : 0;
            run = hole ? run + 1 : 0;
            if (run == 4) {
                return false;
            }
        }
        return punched <= 10;
    }

    int lift(int roll, int pitch, int step) {
        Paper p = paper(roll);
        if (p != null) {
            for (Note n : p.notes) {
                if (n.pitch == pitch && in(step, 0, 299) && n.has(step)) {
                    p.notes.remove(n);
                    return n.length;
                }
            }
        }
        return -1;
    }

    int hole(int roll, int pitch, int step) {
        Paper p = paper(roll);
        if (p == null || !in(pitch, 0, 23) || !in(step, 0, 299)) {
            return -1;
        }
        for (Note n : p.notes) {
            if (n.pitch == pitch && n.has(step)) {
                return n.punchedAt(step) ? 1 : 2;
            }
        }
        return 0;
    }

    int note(int roll, int i, int what) {
        Paper p = paper(roll);
        if (p == null || !in(i, 0, p.notes.size() - 1) || !in(what, 0, 2)) {
            return -1;
        }
        Note n = p.notes.get(i);
        return new int[] {n.pitch, n.first, n.length}[what];
    }

    int tempo(int roll, int step, int ticks) {
        Paper p = paper(roll);
        if (p == null || !in(step, 0, 299) || !in(ticks, 1, 9)
                || p.tempo.size() == 10 && !p.tempo.containsKey(step)) {
            return -1;
        }
        p.tempo.put(step, ticks);
        return p.tempo.size();
    }

    private static List<Integer> stepOfTick(Paper p) {
        List<Integer> steps = new ArrayList<>();
        for (int step = 0; step < 300; step++) {
            Map.Entry<Integer, Integer> mark = p.tempo.floorEntry(step);
            int ticks = mark == null ? 2 : mark.getValue();
            for (int k = 0; k < ticks; k++) {
                steps.add(step);
            }
        }
        return steps;
    }

    /** Per tick: pressure as it begins, pitches that have a note, pitches that sound; null: refused. */
    private int[][] play(int roll, int pedal) {
        Paper p = paper(roll);
        if (p == null || !in(pedal, 0, 20)) {
            return null;
        }
        List<Integer> steps = stepOfTick(p);
        int[][] told = new int[steps.size()][];
        int pressure = 50;
        for (int tick = 0; tick < told.length; tick++) {
            int there = 0;
            for (Note n : p.notes) {
                there |= n.has(steps.get(tick)) ? 1 << n.pitch : 0;
            }
            int sound = pressure < 8 ? 0 : there;
            told[tick] = new int[] {pressure, there, sound};
            pressure += pedal;
            for (int bit = 0; bit < 24; bit++) {
                pressure -= sound >> bit & 1;
            }
            pressure = pressure < 0 ? 0 : pressure > 100 ? 100 : pressure;
        }
        return told;
    }

    int sounds(int roll, int pedal, int tick) {
        int[][] told = play(roll, pedal);
        return told == null || !in(tick, 0, told.length - 1) ? -1 : told[tick][2];
    }

    int pressure(int roll, int pedal, int tick) {
        int[][] told = play(roll, pedal);
        return told == null || !in(tick, 0, told.length - 1) ? -1 : told[tick][0];
    }

    int silent(int roll, int pedal) {
        int[][] told = play(roll, pedal);
        if (told == null) {
            return -1;
        }
        int silent = 0;
        for (int[] t : told) {
            silent += t[1] != 0 && t[2] == 0 ? 1 : 0;
        }
        return silent;
    }

    int ticks(int roll) {
        Paper p = paper(roll);
        return p == null ? -1 : stepOfTick(p).size();
    }

    int move(int roll, int other) {
        Paper p = paper(roll);
        Paper q = paper(other);
        if (p == null || q == null || p == q || !q.notes.isEmpty()) {
            return -1;
        }
        q.tempo.clear();
        q.tempo.putAll(p.tempo);
        int dropped = 0;
        for (Note n : p.notes) {
            int pitch = n.pitch < 4 ? n.pitch + 12 : n.pitch > 19 ? n.pitch - 12 : n.pitch;
            dropped += layOn(q, new Note(pitch, n.first, n.length)) == 1 ? 0 : 1;
        }
        return dropped;
    }

    int item(int pitch, int step) {
        if (!in(pitch, 0, 23) || !in(step, 0, 299) || items.size() == 40) {
            return -1;
        }
        for (Item it : items) {
            if (it.step > step) {
                return -1;
            }
        }
        items.add(new Item(pitch, step));
        return items.size() - 1;
    }

    void clear() {
        items.clear();
    }

    private static int apart(Note n, Item it) {
        int steps = Math.abs(n.first - it.step);
        return 2 * Math.abs(n.pitch - it.pitch) + (steps > 4 ? 4 : steps);
    }

    /** Of all ways from note i and item j on: that of least cost, and of these the first by its letters. */
    private Way way(Paper p, int i, int j, Map<Integer, Way> known) {
        int key = i * 1000 + j;
        if (known.containsKey(key)) {
            return known.get(key);
        }
        List<Way> ways = new ArrayList<>();
        if (i == p.notes.size() && j == items.size()) {
            ways.add(new Way(0, ""));
        }
        if (i < p.notes.size()) {
            ways.add(way(p, i + 1, j, known).behind('c', 5));
        }
        if (j < items.size()) {
            ways.add(way(p, i, j + 1, known).behind('b', 5));
        }
        if (i < p.notes.size() && j < items.size()) {
            ways.add(way(p, i + 1, j + 1, known).behind('a', apart(p.notes.get(i), items.get(j))));
        }
        ways.sort(Comparator.comparingInt(Way::cost).thenComparing(Way::letters));
        known.put(key, ways.get(0));
        return ways.get(0);
    }

    /** The pairs in order, each a note's place and an item's. */
    private List<int[]> pairs(Paper p) {
        List<int[]> pairs = new ArrayList<>();
        int i = 0;
        int j = 0;
        for (char c : way(p, 0, 0, new HashMap<>()).letters.toCharArray()) {
            if (c == 'a') {
                pairs.add(new int[] {i, j});
            }
            i += c == 'b' ? 0 : 1;
            j += c == 'c' ? 0 : 1;
        }
        return pairs;
    }

    int align(int roll, int what) {
        Paper p = paper(roll);
        if (p == null || !in(what, 0, 5)) {
            return -1;
        }
        List<int[]> pairs = pairs(p);
        int pitches = 0;
        int steps = 0;
        for (int[] pair : pairs) {
            pitches += p.notes.get(pair[0]).pitch != items.get(pair[1]).pitch ? 1 : 0;
            steps += p.notes.get(pair[0]).first != items.get(pair[1]).step ? 1 : 0;
        }
        int cost = way(p, 0, 0, new HashMap<>()).cost;
        int n = pairs.size();
        return new int[] {cost, n, items.size() - n, p.notes.size() - n, pitches, steps}[what];
    }

    int paired(int roll, int i) {
        Paper p = paper(roll);
        if (p != null) {
            for (int[] pair : pairs(p)) {
                if (pair[1] == i) {
                    return pair[0];
                }
            }
        }
        return -1;
    }

    int mend(int roll) {
        Paper p = paper(roll);
        if (p == null) {
            return -1;
        }
        int mended = 0;
        List<Note> ahead = new ArrayList<>(p.notes);
        for (int[] pair : pairs(p)) {
            Note n = ahead.get(pair[0]);
            int pitch = items.get(pair[1]).pitch;
            if (n.pitch != pitch) {
                p.notes.remove(n);
                if (layOn(p, new Note(pitch, n.first, n.length)) == 1) {
                    mended++;
                } else {
                    p.notes.add(n);
                    p.sort();
                }
            }
        }
        return mended;
    }

    int sight(int copy, int pitch, boolean faulty) {
        if (!in(copy, 1, 1000) || !in(pitch, 0, 23) || sights.size() == 200) {
            return -1;
        }
        sights.add(new Sight(copy, pitch, faulty));
        return sights.size();
    }

    /** All copies from which on the punch may be worn. */
    private List<Integer> sinces(int pitch) {
        List<Integer> may = new ArrayList<>();
        for (int from = 1; from <= 1001; from++) {
            boolean fits = true;
            for (Sight s : sights) {
                fits &= s.pitch != pitch || s.faulty == s.copy >= from;
            }
            if (fits) {
                may.add(from);
            }
        }
        return may;
    }

    int since(int pitch, int what) {
        if (!in(pitch, 0, 23) || !in(what, 0, 1)) {
            return -1;
        }
        List<Integer> may = sinces(pitch);
        return may.isEmpty() ? -1 : may.get(what == 0 ? 0 : may.size() - 1);
    }

    int worn(int copy, int what) {
        if (!in(copy, 1, 1000) || !in(what, 0, 1)) {
            return -1;
        }
        int bits = 0;
        for (int pitch = 0; pitch < 24; pitch++) {
            List<Integer> may = sinces(pitch);
            long by = may.stream().filter(from -> from <= copy).count();
            if (by > 0 && (what == 1 || by == may.size())) {
                bits |= 1 << pitch;
            }
        }
        return bits;
    }

    int line(int copy, int day, int place) {
        if (!in(copy, 1, 1000) || !in(day, 0, 100000) || !in(place, 0, 99) || lines.size() == 200) {
            return -1;
        }
        lines.add(new Line(copy, day, place, today));
        return lines.size();
    }

    int day(int n) {
        if (!in(n, 0, 1000)) {
            return -1;
        }
        today += n;
        return today;
    }

    private boolean noDays(int day, int known) {
        return !in(day, 0, 100000) || !in(known, 0, 100000) || known > today;
    }

    /** The place, or null where the call throws. */
    Integer where(int copy, int day, int known) {
        if (!in(copy, 1, 1000) || noDays(day, known)) {
            return null;
        }
        Line best = null;
        for (int i = lines.size() - 1; i >= 0; i--) {
            Line l = lines.get(i);
            if (l.copy == copy && l.told <= known && l.day <= day && (best == null || l.day > best.day)) {
                best = l;
            }
        }
        return best == null ? 0 : best.place;
    }

    int there(int place, int day, int known) {
        if (!in(place, 1, 99) || noDays(day, known)) {
            return -1;
        }
        int found = 0;
        for (int copy : lines.stream().mapToInt(Line::copy).distinct().toArray()) {
            found += where(copy, day, known) == place ? 1 : 0;
        }
        return found;
    }

    int count(int what) {
        if (in(what, 0, 4)) {
            return new int[] {rolls.size(), items.size(), sights.size(), lines.size(), today}[what];
        }
        for (int r = 0; r < rolls.size(); r++) {
            if (what == 10 + r) {
                return rolls.get(r).notes.size();
            }
            if (what == 20 + r) {
                return rolls.get(r).tempo.size();
            }
        }
        return -1;
    }
}
