import java.util.ArrayList;
import java.util.Arrays;
import java.util.HashMap;
import java.util.HashSet;
import java.util.List;
import java.util.Map;
import java.util.Random;
import java.util.Set;
import java.util.TreeSet;

/**
 * Long runs of chosen calls, compared with a second, slow reading of the document that tries all ways
 * where the program is clever. The seeds are fixed, so that each run is the same.
 */
public final class OracleTest {
    private static final int RUNS = 1500;
    private static final int CALLS = 220;
    /** No more is promised of one object. */
    private static final int MOST_CALLS = 512;

    public static void main(String[] args) {
        int wrong = 0;
        long[] seen = new long[64];
        for (int run = 0; run < RUNS && wrong < 10; run++) {
            if (!agrees(run, seen)) {
                wrong++;
            }
        }
        String[] things = {"needed signs", "courtesies", "naturals ahead", "ties", "columns by search",
            "columns in turn", "dots moved", "naturals of keys", "WRONG", "UNKNOWN", "OUTSIDE", "ROOM"};
        for (int i = 0; i < things.length; i++) {
            if (seen[i] == 0) {
                System.out.println("the runs never came upon: " + things[i]);
                wrong++;
            }
        }
        System.out.println(wrong == 0 ? "all runs agree" : wrong + " faults");
        if (wrong != 0) {
            System.exit(1);
        }
    }

    private static boolean agrees(int run, long[] seen) {
        Random random = new Random(run);
        Chooser chooser = new Chooser(random, run);
        SignDots real = new SignDots();
        Slow slow = new Slow();
        StringBuilder log = new StringBuilder();
        int calls = run % 10 == 0 ? MOST_CALLS : CALLS;
        for (int call = 0; call < calls; call++) {
            int[] c = chooser.next(slow.notes.size());
            int got = ask(real, c);
            int due = slow.ask(c);
            log.append(Arrays.toString(c)).append(" -> ").append(got).append('\n');
            if (got != due) {
                System.out.println("run " + run + ", call " + call + ": due is " + due + " at the end of\n" + log);
                return false;
            }
            note(seen, c, got, slow);
        }
        return true;
    }

    private static void note(long[] seen, int[] c, int got, Slow slow) {
        if (c[0] == 9 && c[2] == 0 && got == 1) seen[0]++;
        if (c[0] == 9 && c[2] == 0 && got == 2) seen[1]++;
        if (c[0] == 9 && c[2] == 2 && got == 1) seen[2]++;
        if (c[0] == 9 && c[2] == 1 && got == 1) seen[3]++;
        if (c[0] == 9 && c[2] == 4 && got > 1) seen[slow.lastWasSearch ? 4 : 5]++;
        if (c[0] == 11 && got > 0 && Math.abs(got - 100 - slow.place(slow.notes.get(c[1]))) > 1) seen[6]++;
        if (c[0] == 13 && c[3] == 1 && got == 10) seen[7]++;
        if (got == SignDots.WRONG) seen[8]++;
        if (got == SignDots.UNKNOWN) seen[9]++;
        if (got == SignDots.OUTSIDE) seen[10]++;
        if (got == SignDots.ROOM) seen[11]++;
    }

    private static int ask(SignDots x, int[] c) {
        switch (c[0]) {
            case 1: return x.note(c[1], c[2], c[3], c[4], c[5]);
            case 2: return x.mark(c[1], c[2], c[3]);
            case 3: return x.key(c[1], c[2]);
            case 4: return x.clef(c[1], c[2]);
            case 5: return x.rule(c[1], c[2]);
            case 6: return x.drop();
            case 7: return x.count(c[1]);
            case 8: return x.ordered(c[1]);
            case 9: return x.sign(c[1], c[2]);
            case 10: return x.extent(c[1], c[2]);
            case 11: return x.dot(c[1]);
            case 12: return x.keySigns(c[1]);
            default: return x.keySign(c[1], c[2], c[3]);
        }
    }

    /** Chooses calls; each run has its own habits, so that NOTES meet often in some way or other. */
    private static final class Chooser {
        private final Random random;
        private final int lowStep;
        private final int steps;
        private final int bars;
        private final int times;
        private final int voices;
        private final int[] alters;
        private final boolean crowded;
        /** Few STEPS of one LETTER, mostly TIED, and one bit of COURTESY at a time. */
        private final boolean bound;

        Chooser(Random random, int run) {
            this.random = random;
            int[] spans = {1, 2, 8, 15, 70};
            bound = run % 5 == 1;
            steps = bound ? 21 : spans[run % spans.length];
            lowStep = random.nextInt(70 - steps + 1);
            bars = 1 + random.nextInt(run % 7 == 0 ? 20 : 4);
            times = 1 + random.nextInt(4);
            voices = 1 + random.nextInt(bound ? 2 : 4);
            int[][] habits = {{-4, -3, -2, -1, 0, 1, 2, 3, 4}, {0, 2}, {0, -2}, {-4, -2}, {4, 2, 0}, {-2, 0, 2, 4}};
            alters = habits[bound ? 1 + random.nextInt(2) : random.nextInt(habits.length)];
            crowded = run % 6 == 0;
        }

        int[] next(int size) {
            int r = random.nextInt(100);
            if (r < (crowded ? 50 : 22)) {
                return new int[] {1, odd(step(), -1, 70), odd(alters[random.nextInt(alters.length)], -5, 5),
                    odd(random.nextInt(bars), -1, 20), odd(random.nextInt(times), -1, 1000), odd(random.nextInt(voices), -1, 4)};
            }
            if (r < 58) {
                return change(size);
            }
            return question(size);
        }

        private int step() {
            int above = random.nextInt(steps);
            return lowStep + (bound ? above - above % 7 : above);
        }

        private int[] change(int size) {
            int r = random.nextInt(40);
            if (r < 24) {
                int what = bound && random.nextInt(6) > 0 ? 0 : random.nextInt(3);
                int v = what == 2 ? random.nextInt(4) : random.nextInt(4) == 0 ? 0 : 1;
                return new int[] {2, some(size), odd(what, -1, 3), odd(v, -1, what == 2 ? 4 : 2)};
            }
            if (r < 27) return new int[] {3, odd(random.nextInt(bars), -1, 20), odd(random.nextInt(15) - 7, -8, 8)};
            if (r < 29) return new int[] {4, odd(random.nextInt(bars), -1, 20), odd(random.nextInt(3), -1, 3)};
            if (r < 37) {
                int what = random.nextInt(5);
                int[] limits = {1, 1, 15, 1, 2};
                if (what == 2 && bound) return new int[] {5, 2, 1 << random.nextInt(4)};
                return new int[] {5, odd(what, -1, 5), odd(random.nextInt(limits[what] + 1), -1, limits[what] + 1)};
            }
            return crowded ? new int[] {7, random.nextInt(6) - 1} : new int[] {6};
        }

        private int[] question(int size) {
            if (bound && random.nextInt(2) == 0) return new int[] {7, 2};
            int r = random.nextInt(40);
            if (r < 22) return new int[] {9, some(size), odd(random.nextInt(6), -1, 6)};
            if (r < 27) return new int[] {11, some(size)};
            if (r < 30) return new int[] {10, odd(random.nextInt(bars), -1, 20), odd(random.nextInt(times), -1, 1000)};
            if (r < 32) return new int[] {7, random.nextInt(6) - 1};
            if (r < 34) return new int[] {8, some(size)};
            if (r < 36) return new int[] {12, odd(random.nextInt(bars), -1, 20)};
            return new int[] {13, odd(random.nextInt(bars), -1, 20), random.nextInt(10) - 1, odd(random.nextInt(3), -1, 3)};
        }

        private int some(int size) {
            return size == 0 ? random.nextInt(3) - 1 : odd(random.nextInt(size), -1, size);
        }

        private int odd(int usual, int below, int above) {
            int r = random.nextInt(150);
            return r == 0 ? below : r == 1 ? above : r == 2 ? Integer.MIN_VALUE : r == 3 ? Integer.MAX_VALUE : usual;
        }
    }

    private static final class Note {
        int number, step, alter, bar, time, voice, tied, grace, dots;
        int kind, natural;

        int when() {
            return bar * 1000 + time;
        }

        int letter() {
            return step % 7;
        }
    }

    /** The document read once more, without a thought of speed. */
    private static final class Slow {
        final List<Note> notes = new ArrayList<>();
        final Integer[] keyTold = new Integer[20];
        final Integer[] clefTold = new Integer[20];
        int octaves, voices, courtesy, old, cancel;
        boolean lastWasSearch;
        private boolean fresh;
        private final Map<Integer, Map<Note, Integer>> columnsByChord = new HashMap<>();

        int ask(int[] c) {
            if (c[0] <= 6) {
                fresh = false;
                columnsByChord.clear();
            }
            switch (c[0]) {
                case 1: return note(c[1], c[2], c[3], c[4], c[5]);
                case 2: return mark(c[1], c[2], c[3]);
                case 3: return tell(keyTold, c[1], c[2], -7, 7);
                case 4: return tell(clefTold, c[1], c[2], 0, 2);
                case 5: return rule(c[1], c[2]);
                case 6: return drop();
                case 7: return count(c[1]);
                case 8: return c[1] < 0 || c[1] >= notes.size() ? -2 : order().get(c[1]).number;
                case 9: return sign(c[1], c[2]);
                case 10: return extent(c[1], c[2]);
                case 11: return dot(c[1]);
                case 12: return c[1] < 0 || c[1] > 19 ? -3 : keyList(c[1]).size();
                default: return keySign(c[1], c[2], c[3]);
            }
        }

        private int note(int step, int alter, int bar, int time, int voice) {
            if (step < 0 || step > 69 || alter < -4 || alter > 4 || bar < 0 || bar > 19 || time < 0 || time > 999
                    || voice < 0 || voice > 3) {
                return -3;
            }
            if (notes.size() == 60) {
                return -5;
            }
            Note n = new Note();
            n.number = notes.size();
            n.step = step;
            n.alter = alter;
            n.bar = bar;
            n.time = time;
            n.voice = voice;
            notes.add(n);
            return n.number;
        }

        private int mark(int number, int what, int v) {
            if (number < 0 || number >= notes.size()) {
                return -2;
            }
            if (what < 0 || what > 2 || v < 0 || v > (what == 2 ? 3 : 1)) {
                return -3;
            }
            Note n = notes.get(number);
            int was;
            if (what == 0) {
                if (v == 1 && partner(n) == null) {
                    return -4;
                }
                was = n.tied;
                n.tied = v;
            } else if (what == 1) {
                was = n.grace;
                n.grace = v;
            } else {
                was = n.dots;
                n.dots = v;
            }
            return was;
        }

        private int tell(Integer[] told, int bar, int v, int least, int most) {
            if (bar < 0 || bar > 19 || v < least || v > most) {
                return -3;
            }
            int was = at(told, bar);
            told[bar] = v;
            return was;
        }

        private int at(Integer[] told, int bar) {
            for (int b = bar; b >= 0; b--) {
                if (told[b] != null) {
                    return told[b];
                }
            }
            return 0;
        }

        private int rule(int what, int v) {
            int[] limits = {1, 1, 15, 1, 2};
            if (what < 0 || what > 4 || v < 0 || v > limits[what]) {
                return -3;
            }
            int was;
            switch (what) {
                case 0: was = octaves; octaves = v; break;
                case 1: was = voices; voices = v; break;
                case 2: was = courtesy; courtesy = v; break;
                case 3: was = old; old = v; break;
                default: was = cancel; cancel = v; break;
            }
            return was;
        }

        private int drop() {
            if (notes.isEmpty()) {
                return -2;
            }
            notes.remove(notes.size() - 1);
            return notes.size();
        }

        private List<Note> order() {
            List<Note> sorted = new ArrayList<>(notes);
            sorted.sort((a, b) -> a.when() != b.when() ? a.when() - b.when() : a.number - b.number);
            return sorted;
        }

        private List<Note> chord(int when) {
            List<Note> chord = new ArrayList<>();
            for (Note n : notes) {
                if (n.when() == when) {
                    chord.add(n);
                }
            }
            return chord;
        }

        private Note partner(Note n) {
            Note last = null;
            for (Note m : order()) {
                if (m.when() < n.when() && m.voice == n.voice && m.step == n.step) {
                    last = m;
                }
            }
            return last != null && last.alter == n.alter ? last : null;
        }

        private boolean tied(Note n) {
            return n.tied == 1 && partner(n) != null;
        }

        private int byKey(int key, int letter) {
            String order = key > 0 ? "fcgdaeb" : "beadgcf";
            int at = order.indexOf("cdefgab".charAt(letter));
            return at < Math.abs(key) ? (key > 0 ? 2 : -2) : 0;
        }

        private String seat(Note n) {
            return (octaves == 0 ? "step " + n.step : "letter " + n.letter()) + (voices == 0 ? "" : " voice " + n.voice);
        }

        private void find() {
            if (fresh) {
                return;
            }
            fresh = true;
            Map<String, Integer> endOfBarBefore = new HashMap<>();
            for (int bar = 0; bar < 20; bar++) {
                Map<String, Integer> states = new HashMap<>();
                Set<Integer> whens = new TreeSet<>();
                for (Note n : notes) {
                    states.put(seat(n), byKey(at(keyTold, bar), n.letter()));
                    if (n.bar == bar) {
                        whens.add(n.when());
                    }
                }
                Set<String> shown = new HashSet<>();
                for (int when : whens) {
                    states = readChord(chord(when), states, endOfBarBefore, shown);
                }
                endOfBarBefore = states;
            }
        }

        private Map<String, Integer> readChord(List<Note> chord, Map<String, Integer> ahead,
                Map<String, Integer> barBefore, Set<String> shown) {
            Map<String, Integer> after = new HashMap<>(ahead);
            Map<String, List<Note>> bySeat = new HashMap<>();
            for (Note n : chord) {
                n.kind = 0;
                n.natural = 0;
                bySeat.computeIfAbsent(seat(n), s -> new ArrayList<>()).add(n);
            }
            for (Map.Entry<String, List<Note>> entry : bySeat.entrySet()) {
                String seat = entry.getKey();
                Set<Integer> alters = new HashSet<>();
                List<Note> free = new ArrayList<>();
                for (Note n : entry.getValue()) {
                    alters.add(n.alter);
                    if (!tied(n)) {
                        free.add(n);
                    }
                }
                Set<String> met = new HashSet<>();
                if (alters.size() > 1) {
                    for (Note n : free) {
                        n.kind = met.add(n.step + " " + n.alter) ? 1 : 0;
                    }
                    after.put(seat, 77);
                } else if (!free.isEmpty()) {
                    int alter = free.get(0).alter;
                    after.put(seat, alter);
                    for (Note n : free) {
                        n.kind = ahead.get(seat) != alter && met.add("" + n.step) ? 1 : 0;
                    }
                }
                Set<Integer> steps = new HashSet<>();
                for (Note n : free) {
                    boolean first = steps.add(n.step);
                    if (n.kind == 1) {
                        n.natural = old == 1 && Math.abs(n.alter) == 2 && ahead.get(seat) == 2 * n.alter ? 1 : 0;
                    } else if (first && !shown.contains(seat) && courteous(n, ahead, barBefore)) {
                        n.kind = 2;
                        shown.add(seat);
                    }
                }
            }
            return after;
        }

        private boolean courteous(Note n, Map<String, Integer> ahead, Map<String, Integer> barBefore) {
            if ((courtesy & 1) == 1 && n.bar > 0 && barBefore.get(seat(n)) != n.alter) {
                return true;
            }
            for (Note m : notes) {
                if (m.bar != n.bar || m.time >= n.time) {
                    continue;
                }
                boolean near = voices == 0 || m.voice == n.voice;
                if ((courtesy & 2) == 2 && octaves == 0 && near && m.letter() == n.letter() && m.step != n.step
                        && ahead.get(seat(m)) != n.alter) {
                    return true;
                }
                if ((courtesy & 4) == 4 && seat(m).equals(seat(n)) && tied(m) && partner(m).bar < m.bar
                        && m.alter != n.alter) {
                    return true;
                }
            }
            return (courtesy & 8) == 8 && n.bar > 0
                    && byKey(at(keyTold, n.bar - 1), n.letter()) != byKey(at(keyTold, n.bar), n.letter());
        }

        private int count(int what) {
            find();
            if (what < 0 || what > 3) {
                return -3;
            }
            Set<Integer> chords = new HashSet<>();
            int[] kinds = new int[3];
            for (Note n : notes) {
                chords.add(n.when());
                kinds[n.kind]++;
            }
            return what == 0 ? notes.size() : what == 3 ? chords.size() : kinds[what];
        }

        private int sign(int number, int what) {
            if (number < 0 || number >= notes.size()) {
                return -2;
            }
            find();
            Note n = notes.get(number);
            switch (what) {
                case 0: return n.kind;
                case 1: return tied(n) ? 1 : 0;
                case 2: return n.natural;
                case 3: return n.kind == 0 ? 0 : width(n);
                case 4: return n.kind == 0 ? -1 : columns(n.when()).get(n);
                case 5: return place(n) + 100;
                default: return -3;
            }
        }

        int place(Note n) {
            int clef = at(clefTold, n.bar);
            return n.step - (clef == 0 ? 30 : clef == 1 ? 18 : 24);
        }

        private int width(Note n) {
            Map<Integer, Integer> plain = Map.of(-4, 16, -3, 12, -2, 9, -1, 9, 0, 7, 1, 8, 2, 10, 3, 14, 4, 10);
            int w = plain.get(n.alter) + (n.kind == 2 ? 8 : 0) + (n.natural == 1 ? 7 : 0);
            return n.grace == 1 ? (int) Math.ceil(w * 2 / 3.0 - 1e-9) : w;
        }

        private boolean canShare(Note a, Note b) {
            Note high = place(a) > place(b) ? a : b;
            Note low = high == a ? b : a;
            if (place(high) == place(low)) {
                return false;
            }
            int down = high.alter < 0 ? 2 : high.alter == 4 ? 1 : 3;
            int up = low.alter < 0 ? 4 : low.alter == 4 ? 1 : 3;
            down = high.kind == 2 ? Math.max(2, down) : down;
            up = low.kind == 2 ? Math.max(2, up) : up;
            return place(high) - place(low) >= down + up;
        }

        private Map<Note, Integer> columns(int when) {
            Map<Note, Integer> known = columnsByChord.get(when);
            List<Note> sorted = new ArrayList<>();
            for (Note n : chord(when)) {
                if (n.kind != 0) {
                    sorted.add(n);
                }
            }
            lastWasSearch = sorted.size() <= 6;
            if (known != null) {
                return known;
            }
            sorted.sort((a, b) -> a.step != b.step ? b.step - a.step : a.number - b.number);
            List<Note> zigzag = new ArrayList<>();
            while (!sorted.isEmpty()) {
                zigzag.add(sorted.remove(zigzag.size() % 2 == 0 ? 0 : sorted.size() - 1));
            }
            int[] chosen = zigzag.size() <= 6 ? allWays(zigzag) : inTurn(zigzag);
            Map<Note, Integer> answer = new HashMap<>();
            for (int i = 0; i < zigzag.size(); i++) {
                answer.put(zigzag.get(i), chosen[i]);
            }
            columnsByChord.put(when, answer);
            return answer;
        }

        private int[] allWays(List<Note> zigzag) {
            int n = zigzag.size();
            int ways = 1;
            for (int i = 0; i < n; i++) {
                ways *= 6;
            }
            boolean[][] share = new boolean[n][n];
            int[] widths = new int[n];
            for (int i = 0; i < n; i++) {
                widths[i] = width(zigzag.get(i));
                for (int j = 0; j < i; j++) {
                    share[i][j] = canShare(zigzag.get(i), zigzag.get(j));
                }
            }
            int[] best = null;
            int bestSum = 0;
            for (int way = 0; way < ways; way++) {
                int[] column = new int[n];
                int rest = way;
                for (int i = n - 1; i >= 0; i--) {
                    column[i] = rest % 6;
                    rest /= 6;
                }
                int sum = sumIfAllowed(column, widths, share);
                if (sum >= 0 && (best == null || sum < bestSum)) {
                    best = column;
                    bestSum = sum;
                }
            }
            return best;
        }

        private int sumIfAllowed(int[] column, int[] widths, boolean[][] share) {
            int[] wide = new int[6];
            for (int i = 0; i < column.length; i++) {
                for (int j = 0; j < i; j++) {
                    if (column[i] == column[j] && !share[i][j]) {
                        return -1;
                    }
                }
                wide[column[i]] = Math.max(wide[column[i]], widths[i]);
            }
            int sum = wide[0];
            for (int c = 1; c < 6; c++) {
                if (wide[c] > 0 && wide[c - 1] == 0) {
                    return -1;
                }
                sum += wide[c];
            }
            return sum;
        }

        private int[] inTurn(List<Note> zigzag) {
            List<List<Note>> columns = new ArrayList<>();
            int[] answer = new int[zigzag.size()];
            for (int i = 0; i < answer.length; i++) {
                Note n = zigzag.get(i);
                int c = 0;
                while (c < columns.size() && !columns.get(c).stream().allMatch(m -> canShare(m, n))) {
                    c++;
                }
                if (c == columns.size()) {
                    columns.add(new ArrayList<>());
                }
                columns.get(c).add(n);
                answer[i] = c;
            }
            return answer;
        }

        private int extent(int bar, int time) {
            if (bar < 0 || bar > 19 || time < 0 || time > 999 || chord(bar * 1000 + time).isEmpty()) {
                return -2;
            }
            find();
            Map<Integer, Integer> wide = new HashMap<>();
            columns(bar * 1000 + time).forEach((n, c) -> wide.merge(c, width(n), Math::max));
            return wide.values().stream().mapToInt(w -> w).sum();
        }

        private int dot(int number) {
            if (number < 0 || number >= notes.size()) {
                return -2;
            }
            Note n = notes.get(number);
            if (n.dots == 0) {
                return -1;
            }
            List<Integer> places = new ArrayList<>();
            for (Note m : chord(n.when())) {
                if (m.dots > 0 && !places.contains(place(m))) {
                    places.add(place(m));
                }
            }
            places.sort((a, b) -> b - a);
            Map<Long, Integer> memo = new HashMap<>();
            int above = 151;
            for (int i = 0; ; i++) {
                int least = leastFrom(places, i, above, memo);
                int s = above - 2;
                while (Math.abs(s - places.get(i)) + leastFrom(places, i + 1, s, memo) != least) {
                    s -= 2;
                }
                if (places.get(i) == place(n)) {
                    return s + 100;
                }
                above = s;
            }
        }

        /** The least sum of the places from the i-th on, with all spaces below one. */
        private int leastFrom(List<Integer> places, int i, int above, Map<Long, Integer> memo) {
            if (i == places.size()) {
                return 0;
            }
            if (above < -149) {
                return 100000;
            }
            long name = i * 10000L + above + 5000;
            Integer known = memo.get(name);
            if (known != null) {
                return known;
            }
            int s = above - 2;
            int here = Math.abs(s - places.get(i)) + leastFrom(places, i + 1, s, memo);
            int least = Math.min(here, leastFrom(places, i, s, memo));
            memo.put(name, least);
            return least;
        }

        private List<int[]> keyList(int bar) {
            int now = at(keyTold, bar);
            int before = bar == 0 ? 0 : at(keyTold, bar - 1);
            List<int[]> list = new ArrayList<>();
            if (now == before) {
                return list;
            }
            boolean sameSide = now * before > 0;
            if (cancel == 1 || cancel == 2 && !sameSide) {
                for (int letter : letters(before)) {
                    if (byKey(now, letter) == 0) {
                        list.add(new int[] {letter, 10, keyPlace(letter, before, bar)});
                    }
                }
            }
            for (int letter : letters(now)) {
                list.add(new int[] {letter, now > 0 ? 12 : 8, keyPlace(letter, now, bar)});
            }
            return list;
        }

        private int[] letters(int key) {
            String order = key > 0 ? "fcgdaeb" : "beadgcf";
            int[] letters = new int[Math.abs(key)];
            for (int i = 0; i < letters.length; i++) {
                letters[i] = "cdefgab".indexOf(order.charAt(i));
            }
            return letters;
        }

        private int keyPlace(int letter, int key, int bar) {
            int clef = at(clefTold, bar);
            int place = new int[] {9, 7, 8}[clef] - (key > 0 ? 0 : 2);
            while ((place + new int[] {30, 18, 24}[clef]) % 7 != letter) {
                place--;
            }
            return place + 100;
        }

        private int keySign(int bar, int i, int what) {
            if (bar < 0 || bar > 19 || what < 0 || what > 2) {
                return -3;
            }
            List<int[]> list = keyList(bar);
            return i < 0 || i >= list.size() ? -2 : list.get(i)[what];
        }
    }
}
