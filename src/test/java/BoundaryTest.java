import java.util.ArrayList;
import java.util.Arrays;
import java.util.List;
import java.util.Random;

/**
 * Each sentence of the document that names a boundary case (too small, too large, empty, full, a wrap-around,
 * a refused call) has a method of its own here; the sentence stands in the call of says(..) at its beginning.
 */
public final class BoundaryTest {
    private static final int NONE = -1, UNKNOWN = -2, OUTSIDE = -3, WRONG = -4, ROOM = -5;
    private static final int LEAST = Integer.MIN_VALUE, MOST = Integer.MAX_VALUE;
    private static final int NOTE = 1, MARK = 2, KEY = 3, CLEF = 4, RULE = 5, DROP = 6, COUNT = 7, ORDERED = 8, SIGN = 9,
        EXTENT = 10, DOT = 11, KEY_SIGNS = 12, KEY_SIGN = 13;
    private static final String[] NAMES = {"", "note", "mark", "key", "clef", "rule", "drop", "count", "ordered", "sign",
        "extent", "dot", "keySigns", "keySign"};
    private static final int[] RULE_LIMIT = {1, 1, 15, 1, 2};
    private static final String SHARPS = "fcgdaeb", FLATS = "beadgcf", LETTERS = "cdefgab";
    private static String sentence = "";
    private static int sentences;
    private static int wrong;

    public static void main(String[] args) {
        terms();
        rulesAndStates();
        courtesies();
        columns();
        dots();
        keys();
        refusals();
        promises();
        System.out.println(wrong == 0 ? sentences + " sentences hold at their bounds" : wrong + " answers are not as due");
        if (wrong != 0) {
            System.exit(1);
        }
    }

    private static void terms() {
        atMost512Calls();
        sixtyNotes();
        numberedAsTold();
        stepBounds();
        letterOfEachStep();
        alterBounds();
        barBounds();
        timeBounds();
        voiceBounds();
        orderAtTheEdges();
        chordsAtTheEdges();
        tieNeedsOneBefore();
        tieTakesTheNearest();
        tieNeedsItsAlter();
        dotsBounds();
        keyOfEachBar();
        clefOfEachBar();
        keyAltersLetters();
        placesAtTheEdges();
    }

    private static void rulesAndStates() {
        ruleBounds();
        rulesAtFirst();
        seatsAtTheEdges();
        stateAtTheBeginningOfABar();
        toldByTheStatesAhead();
        unlikeAlters();
        unlikeTheFirstAlone();
        unlikeTiedOnes();
        likeAlters();
        likeOnesAllTied();
        oldNatural();
    }

    private static void courtesies() {
        courtesyByEachBit();
        courtesyNotTied();
        courtesyFirstOfItsStep();
        courtesyFirstOfItsSeat();
        courtesyNoBarBefore();
        courtesySeatWithoutNotes();
        courtesyOctaves();
        courtesyTieFromABarBefore();
        courtesyKeyOfTheBarBefore();
        courtesyChangesNoState();
    }

    private static void columns() {
        widthsByAlter();
        widthsOfGraces();
        reachesOfPairs();
        reachesInBrackets();
        neverAtOnePlace();
        zigzagOfLikeOnes();
        sixSignsAtMost();
        leastWhereTheyDifferFirst();
        withMoreThanSix();
    }

    private static void dots() {
        dotsBeyondTheLines();
        dotsShareAPlace();
        dotsOfAllSubsets();
        dotsOfSixty();
    }

    private static void keys() {
        keyShownAtBar0();
        keyShownWhereItChanges();
        keyCancels();
        keySignPlaces();
        naturalPlaces();
    }

    private static void refusals() {
        refusedNote();
        refusedMark();
        refusedKeyAndClef();
        refusedRule();
        refusedDrop();
        refusedQuestions();
        theFirstThatFits();
        wrapAroundNumbers();
        neverThrows();
    }

    private static void promises() {
        newObject();
        markWhatItWas();
        markStaysTied();
        markCountsAsLongAsItCan();
        keyFromABarOn();
        clefFromABarOn();
        dropTheLast();
        dropAndTellAgain();
        countOfEmptyAndFull();
        orderedOfEmptyAndFull();
        signWithout();
        extentOfNoChord();
        dotNone();
        keySignsOfEachBar();
        keySignOfEachBar();
    }

    // ---- What the tests use

    private static void says(String words) {
        sentence = words;
        sentences++;
    }

    private static void due(String what, int got, int want) {
        if (got != want) {
            wrong++;
            System.out.println("\"" + sentence + "\": " + what + " answered " + got + ", due is " + want);
        }
    }

    private static int answer(SignDots x, int... c) {
        switch (c[0]) {
            case NOTE: return x.note(c[1], c[2], c[3], c[4], c[5]);
            case MARK: return x.mark(c[1], c[2], c[3]);
            case KEY: return x.key(c[1], c[2]);
            case CLEF: return x.clef(c[1], c[2]);
            case RULE: return x.rule(c[1], c[2]);
            case DROP: return x.drop();
            case COUNT: return x.count(c[1]);
            case ORDERED: return x.ordered(c[1]);
            case SIGN: return x.sign(c[1], c[2]);
            case EXTENT: return x.extent(c[1], c[2]);
            case DOT: return x.dot(c[1]);
            case KEY_SIGNS: return x.keySigns(c[1]);
            default: return x.keySign(c[1], c[2], c[3]);
        }
    }

    /** An object with its calls, so that the same run can be made again; it keeps to the 512 calls of the document. */
    private static final class Staff {
        final List<int[]> calls = new ArrayList<>();
        private SignDots x = new SignDots();
        private int made;

        Staff() {
        }

        Staff(List<int[]> same) {
            for (int[] c : same) call(c);
        }

        int call(int... c) {
            if (made == 512) {
                throw new IllegalStateException("the test makes more than 512 calls");
            }
            made++;
            calls.add(c);
            return answer(x, c);
        }

        /** A question, which is not kept; with no calls left it is put to a new object after the same calls. */
        int ask(int... c) {
            if (made == 512) {
                x = new SignDots();
                made = calls.size();
                for (int[] same : calls) answer(x, same);
            }
            made++;
            return answer(x, c);
        }

        int note(int step, int alter, int bar, int time, int voice) {
            return call(NOTE, step, alter, bar, time, voice);
        }

        int mark(int note, int what, int v) {
            return call(MARK, note, what, v);
        }

        int key(int bar, int fifths) {
            return call(KEY, bar, fifths);
        }

        int clef(int bar, int kind) {
            return call(CLEF, bar, kind);
        }

        int rule(int what, int v) {
            return call(RULE, what, v);
        }

        int drop() {
            return call(DROP);
        }

        int count(int what) {
            return ask(COUNT, what);
        }

        int ordered(int k) {
            return ask(ORDERED, k);
        }

        int sign(int note, int what) {
            return ask(SIGN, note, what);
        }

        int extent(int bar, int time) {
            return ask(EXTENT, bar, time);
        }

        int dot(int note) {
            return ask(DOT, note);
        }

        int keySigns(int bar) {
            return ask(KEY_SIGNS, bar);
        }

        int keySign(int bar, int i, int what) {
            return ask(KEY_SIGN, bar, i, what);
        }

        /** The signs of all NOTES in a row: 0 none, 1 NEEDED, 2 a COURTESY. */
        void signsAre(String name, int... want) {
            due(name + ", NOTES", count(0), want.length);
            for (int n = 0; n < want.length; n++) due(name + ", sign of NOTE " + n, sign(n, 0), want[n]);
        }

        /** Makes a call that must be refused and must change nothing. */
        void refuses(int want, int... c) {
            String before = allOf(calls);
            List<int[]> with = new ArrayList<>(calls);
            with.add(c);
            due(NAMES[c[0]] + Arrays.toString(Arrays.copyOfRange(c, 1, c.length)), new Staff(with).lastAnswer(), want);
            due("what was changed by a refused " + NAMES[c[0]], allOf(with).equals(before) ? 0 : 1, 0);
        }

        /** What the last of the kept calls answers, in the same run on a new object. */
        private int lastAnswer() {
            SignDots again = new SignDots();
            int last = 0;
            for (int[] c : calls) last = answer(again, c);
            return last;
        }
    }

    /** All answers that tell the state after some calls, those that tell it by changing it, too. */
    private static String allOf(List<int[]> calls) {
        StringBuilder s = new StringBuilder();
        Staff x = new Staff(calls);
        int size = x.count(0);
        for (int what = 0; what < 4; what++) s.append(x.count(what)).append(' ');
        for (int n = 0; n < size; n++) {
            s.append('|').append(x.ordered(n)).append(':').append(x.dot(n));
            for (int what = 0; what < 6; what++) s.append(',').append(x.sign(n, what));
        }
        for (int bar = 0; bar < 20; bar++) {
            int signs = x.keySigns(bar);
            for (int i = 0; i < signs; i++) {
                for (int what = 0; what < 3; what++) s.append(';').append(x.keySign(bar, i, what));
            }
        }
        // Two unlike numbers tell a BAR that was told from one that follows the BAR before.
        for (int v = -7; v <= 7; v += 14) s.append(' ').append(tellAll(calls, KEY, 20, v));
        for (int v = 0; v <= 2; v++) s.append(' ').append(tellAll(calls, CLEF, 20, v));
        s.append(' ').append(tellAll(calls, RULE, 5, 0));
        for (int what = 0; what < 3; what++) {
            Staff marks = new Staff(calls);
            for (int n = 0; n < size; n++) s.append(' ').append(marks.mark(n, what, 0));
        }
        return s.toString();
    }

    private static String tellAll(List<int[]> calls, int call, int number, int v) {
        Staff x = new Staff(calls);
        StringBuilder s = new StringBuilder();
        for (int i = 0; i < number; i++) s.append(x.call(call, i, v)).append(',');
        return s.toString();
    }

    /** A staff with some of all: NOTES in several BARS, marks, KEYS, CLEFS, RULES. */
    private static Staff someOfAll() {
        Staff x = new Staff();
        x.note(31, 2, 1, 5, 0);
        x.note(31, 2, 2, 0, 0);
        x.note(38, -2, 2, 0, 3);
        x.note(34, 4, 0, 999, 1);
        x.mark(1, 0, 1);
        x.mark(2, 1, 1);
        x.mark(3, 2, 3);
        x.mark(0, 2, 1);
        x.key(1, -3);
        x.key(4, 2);
        x.clef(2, 1);
        x.rule(0, 1);
        x.rule(2, 9);
        x.rule(4, 1);
        return x;
    }

    private static int byKey(int key, int letter) {
        String order = key > 0 ? SHARPS : FLATS;
        int at = order.indexOf(LETTERS.charAt(letter));
        return at < Math.abs(key) ? (key > 0 ? 2 : -2) : 0;
    }

    // ---- Part 1: NOTES, KEYS, CLEFS

    private static void atMost512Calls() {
        says("An object is used for at most 512 calls after it has been made");
        SignDots x = new SignDots();
        int made = 0;
        for (int n = 0; n < 60; n++, made++) due("note", x.note(n, n % 9 - 4, n / 3, 999 - n, n % 4), n);
        for (; made < 508; made++) due("mark", x.mark(made % 60, 2, made % 4), made < 120 ? 0 : (made - 60) % 4);
        due("call 509, count", x.count(0), 60);
        due("call 510, ordered", x.ordered(0), 2);
        due("call 511, sign", x.sign(0, 0), 1);
        due("call 512, drop", x.drop(), 59);
    }

    private static void sixtyNotes() {
        says("NOTES, 60 at most");
        Staff x = new Staff();
        for (int n = 0; n < 59; n++) x.note(30, 0, 0, 0, 0);
        due("the 60th", x.note(30, 0, 0, 0, 0), 59);
        x.refuses(ROOM, NOTE, 30, 0, 0, 0, 0);
        x.refuses(ROOM, NOTE, 69, 4, 19, 999, 3);
        due("refused once", x.note(30, 0, 0, 0, 0), ROOM);
        due("refused twice", x.note(30, 0, 0, 0, 0), ROOM);
        due("NOTES", x.count(0), 60);
        due("drop", x.drop(), 59);
        due("in its room", x.note(30, 2, 0, 1, 0), 59);
        due("and no more", x.note(30, 2, 0, 1, 0), ROOM);
    }

    private static void numberedAsTold() {
        says("numbered as they are told");
        Staff x = new Staff();
        for (int n = 0; n < 20; n++) due("a NOTE ahead of all others", x.note(n, 0, 19 - n, 0, 0), n);
        due("where NOTE 0 stands", x.sign(0, 5), 70);
        due("where NOTE 19 stands", x.sign(19, 5), 89);
        x.drop();
        x.drop();
        due("a number that is free again", x.note(50, 0, 19, 999, 3), 18);
        due("where it stands", x.sign(18, 5), 120);
    }

    /** Tells a NOTE with one argument at its bounds, and beyond them. */
    private static void noteBounds(int argument, int least, int most) {
        for (int v : new int[] {least, most}) {
            Staff x = new Staff();
            int[] c = {NOTE, 30, 0, 0, 0, 0};
            c[argument] = v;
            due("the bound " + v, x.call(c), 0);
            due("NOTES", x.count(0), 1);
        }
        for (int v : new int[] {least - 1, most + 1, LEAST, MOST}) {
            int[] c = {NOTE, 30, 0, 0, 0, 0};
            c[argument] = v;
            new Staff().refuses(OUTSIDE, c);
            someOfAll().refuses(OUTSIDE, c);
        }
    }

    private static void stepBounds() {
        says("a STEP 0 .. 69");
        noteBounds(1, 0, 69);
    }

    private static void letterOfEachStep() {
        says("its LETTER is STEP % 7: 0 c, 1 d, .. 6 b");
        String letters = "cdefgab";
        for (int step = 0; step < 70; step++) {
            // A KEY of n sharps alters the n-th of f c g d a e b, and not one less.
            int sharps = SHARPS.indexOf(letters.charAt(step % 7)) + 1;
            Staff x = new Staff();
            x.note(step, 2, 0, 0, 0);
            x.key(0, sharps);
            due("STEP " + step + " with " + sharps + " sharps", x.sign(0, 0), 0);
            x.key(0, sharps - 1);
            due("STEP " + step + " with a sharp less", x.sign(0, 0), 1);
        }
    }

    private static void alterBounds() {
        says("an ALTER -4 .. 4");
        noteBounds(2, -4, 4);
    }

    private static void barBounds() {
        says("a BAR 0 .. 19");
        noteBounds(3, 0, 19);
    }

    private static void timeBounds() {
        says("a TIME 0 .. 999 in it");
        noteBounds(4, 0, 999);
    }

    private static void voiceBounds() {
        says("a VOICE 0 .. 3");
        noteBounds(5, 0, 3);
    }

    private static void orderAtTheEdges() {
        says("NOTES stand in ORDER by BARS, TIMES, numbers");
        Staff x = new Staff();
        x.note(0, 0, 19, 999, 0);
        x.note(69, 0, 19, 0, 3);
        x.note(30, 4, 0, 999, 0);
        x.note(10, -4, 0, 0, 0);
        x.note(60, 0, 1, 0, 0);
        x.note(0, 0, 0, 999, 0);
        int[] want = {3, 2, 5, 4, 1, 0};
        for (int k = 0; k < want.length; k++) due("ordered(" + k + ")", x.ordered(k), want[k]);
        Staff like = new Staff();
        for (int n = 0; n < 60; n++) like.note(69 - n, 0, 7, 7, n % 4);
        for (int k = 0; k < 60; k++) due("all in one CHORD, ordered(" + k + ")", like.ordered(k), k);
    }

    private static void chordsAtTheEdges() {
        says("those of one BAR and TIME are a CHORD");
        Staff x = new Staff();
        due("without NOTES", x.count(3), 0);
        x.note(30, 0, 0, 0, 0);
        due("one NOTE", x.count(3), 1);
        x.note(69, 4, 0, 0, 3);
        due("a NOTE more in it", x.count(3), 1);
        x.note(30, 0, 0, 1, 0);
        due("the next TIME", x.count(3), 2);
        x.note(30, 0, 1, 0, 0);
        due("the next BAR", x.count(3), 3);
        x.note(30, 0, 1, 1, 0);
        due("the next TIME there", x.count(3), 4);
        Staff one = new Staff();
        Staff many = new Staff();
        for (int n = 0; n < 60; n++) {
            one.note(n, 0, 19, 999, 0);
            many.note(30, 0, n / 3, 999 * (n % 3) / 2, 0);
        }
        due("sixty NOTES of one", one.count(3), 1);
        due("sixty of one NOTE", many.count(3), 60);
    }

    private static void tieNeedsOneBefore() {
        says("TIED (to the NOTE before it in ORDER that has its VOICE and STEP, with a lesser BAR or TIME");
        int[][] others = {
            // STEP, ALTER, BAR, TIME, VOICE of the other one; whether a NOTE 30, 2, 3, 500, 1 can be TIED to it
            {30, 2, 3, 499, 1, 1}, {30, 2, 3, 500, 1, 0}, {30, 2, 3, 501, 1, 0}, {30, 2, 2, 999, 1, 1},
            {30, 2, 0, 0, 1, 1}, {30, 2, 4, 0, 1, 0}, {30, 2, 19, 999, 1, 0}, {30, 2, 3, 0, 0, 0},
            {30, 2, 3, 0, 2, 0}, {29, 2, 3, 0, 1, 0}, {31, 2, 3, 0, 1, 0}, {37, 2, 3, 0, 1, 0}, {23, 2, 3, 0, 1, 0}};
        for (int[] o : others) {
            for (int first = 0; first < 2; first++) {
                Staff x = new Staff();
                if (first == 1) x.note(o[0], o[1], o[2], o[3], o[4]);
                int note = x.note(30, 2, 3, 500, 1);
                if (first == 0) x.note(o[0], o[1], o[2], o[3], o[4]);
                String name = "to " + Arrays.toString(o);
                if (o[5] == 0) x.refuses(WRONG, MARK, note, 0, 1);
                due(name, x.mark(note, 0, 1), o[5] == 1 ? 0 : WRONG);
                due(name + " counts", x.sign(note, 1), o[5]);
            }
        }
        Staff alone = new Staff();
        alone.note(30, 0, 19, 999, 0);
        alone.refuses(WRONG, MARK, 0, 0, 1);
        Staff far = new Staff();
        far.note(0, 4, 0, 0, 3);
        far.note(0, 4, 19, 999, 3);
        due("from the first BAR to the last", far.mark(1, 0, 1), 0);
        due("it counts", far.sign(1, 1), 1);
    }

    private static void tieTakesTheNearest() {
        says("the NOTE before it in ORDER .. with a lesser BAR or TIME");
        Staff x = new Staff();
        x.note(30, 2, 0, 0, 0);
        x.note(30, -2, 0, 1, 0);
        x.note(30, 2, 0, 2, 0);
        x.refuses(WRONG, MARK, 2, 0, 1);
        // NOTES of its own CHORD, told earlier or later, are passed over.
        Staff y = new Staff();
        y.note(30, 2, 0, 0, 0);
        y.note(30, -2, 0, 1, 0);
        int tied = y.note(30, 2, 0, 1, 0);
        y.note(30, -4, 0, 1, 0);
        due("past one of its own CHORD", y.mark(tied, 0, 1), 0);
        // Of two in the CHORD before, that with the greater number is the nearest.
        Staff z = new Staff();
        z.note(30, 2, 0, 0, 0);
        z.note(30, 0, 0, 0, 0);
        int sharp = z.note(30, 2, 0, 1, 0);
        int natural = z.note(30, 0, 0, 1, 0);
        z.refuses(WRONG, MARK, sharp, 0, 1);
        due("to the nearest of a CHORD", z.mark(natural, 0, 1), 0);
        // One of another VOICE or STEP between is passed over.
        Staff w = new Staff();
        w.note(30, 2, 0, 0, 0);
        w.note(30, 0, 0, 1, 1);
        w.note(37, 0, 0, 1, 0);
        due("past other VOICES and STEPS", w.mark(w.note(30, 2, 0, 2, 0), 0, 1), 0);
    }

    private static void tieNeedsItsAlter() {
        says("this must be there, and have its ALTER");
        for (int a = -4; a <= 4; a++) {
            for (int b = -4; b <= 4; b++) {
                Staff x = new Staff();
                x.note(30, a, 0, 0, 0);
                x.note(30, b, 1, 0, 0);
                due("ALTER " + b + " to " + a, x.mark(1, 0, 1), a == b ? 0 : WRONG);
            }
        }
        Staff gone = new Staff();
        gone.note(30, 0, 1, 0, 0);
        gone.note(30, 0, 0, 0, 0);
        gone.drop();
        gone.refuses(WRONG, MARK, 0, 0, 1);
    }

    private static void dotsBounds() {
        says("0 .. 3 DOTS");
        for (int v = 0; v <= 3; v++) {
            Staff x = new Staff();
            x.note(31, 0, 0, 0, 0);
            due("DOTS " + v, x.mark(0, 2, v), 0);
            due("their space", x.dot(0), v == 0 ? NONE : 101);
            due("what they were", x.mark(0, 2, 0), v);
        }
        Staff x = someOfAll();
        for (int v : new int[] {-1, 4, LEAST, MOST}) x.refuses(OUTSIDE, MARK, 0, 2, v);
    }

    private static void keyOfEachBar() {
        says("Each BAR has a KEY .. those told for it or for the nearest one before (at first 0 and 0)");
        for (int bar = 0; bar < 20; bar++) due("the KEY at first, BAR " + bar, new Staff().key(bar, 7), 0);
        for (int told = 0; told < 20; told++) {
            for (int bar = 0; bar < 20; bar++) {
                Staff x = new Staff();
                x.key(told, -7);
                due("told for " + told + ", BAR " + bar, x.key(bar, 1), bar < told ? 0 : -7);
            }
        }
        Staff x = new Staff();
        x.key(19, 5);
        x.key(0, 3);
        due("the last BAR", x.key(19, 5), 5);
        due("the last but one", x.key(18, 3), 3);
    }

    private static void clefOfEachBar() {
        says("Each BAR has .. a CLEF .. those told for it or for the nearest one before (at first 0 and 0)");
        for (int bar = 0; bar < 20; bar++) due("the CLEF at first, BAR " + bar, new Staff().clef(bar, 2), 0);
        for (int told = 0; told < 20; told++) {
            for (int bar = 0; bar < 20; bar++) {
                Staff x = new Staff();
                x.clef(told, 2);
                x.note(30, 0, bar, 0, 0);
                due("told for " + told + ", place in BAR " + bar, x.sign(0, 5), bar < told ? 100 : 106);
                due("told for " + told + ", BAR " + bar, x.clef(bar, 1), bar < told ? 0 : 2);
            }
        }
    }

    private static void keyAltersLetters() {
        says("KEY k alters, above 0, the first k .. below 0 the first -k .. all others by 0");
        for (int key = -7; key <= 7; key++) {
            for (int letter = 0; letter < 7; letter++) {
                for (int alter = -4; alter <= 4; alter++) {
                    // The KEY tells the first of a BAR alone, so each has a staff of its own.
                    Staff x = new Staff();
                    x.key(0, key);
                    x.note(63 + letter, alter, 0, 0, 0);
                    due("KEY " + key + ", letter " + letter + ", ALTER " + alter, x.sign(0, 0),
                        alter == byKey(key, letter) ? 0 : 1);
                }
            }
        }
    }

    private static void placesAtTheEdges() {
        says("a NOTE stands at its STEP less 30, 18, 24 (CLEF 0, 1, 2)");
        int[] less = {30, 18, 24};
        for (int clef = 0; clef < 3; clef++) {
            for (int step : new int[] {0, 17, 18, 24, 30, 38, 69}) {
                Staff x = new Staff();
                x.clef(0, clef);
                x.note(step, 0, 0, 0, 0);
                due("CLEF " + clef + ", STEP " + step, x.sign(0, 5), step - less[clef] + 100);
            }
        }
    }

    // ---- Part 2: SIGNS

    private static void ruleBounds() {
        says("OCTAVES (0 .. 1), VOICES (0 .. 1), COURTESY (bits 1, 2, 4, 8), OLD (0, 1), CANCEL (0 .. 2)");
        for (int what = 0; what < 5; what++) {
            for (int v = 0; v <= RULE_LIMIT[what]; v++) {
                Staff x = new Staff();
                due("RULE " + what + " becomes " + v, x.rule(what, v), 0);
                due("RULE " + what + " was " + v, x.rule(what, 0), v);
            }
            for (int v : new int[] {-1, RULE_LIMIT[what] + 1, LEAST, MOST}) {
                new Staff().refuses(OUTSIDE, RULE, what, v);
                someOfAll().refuses(OUTSIDE, RULE, what, v);
            }
        }
    }

    private static void rulesAtFirst() {
        says("all 0 at first");
        for (int what = 0; what < 5; what++) due("RULE " + what, new Staff().rule(what, RULE_LIMIT[what]), 0);
    }

    private static void seatsAtTheEdges() {
        says("A NOTE's SEAT is its STEP or LETTER, with its VOICE or without");
        // The lowest and the highest STEP of each LETTER, the first and the last VOICE.
        for (int letter = 0; letter < 7; letter++) {
            Staff x = new Staff();
            x.note(letter, 1, 0, 0, 0);
            x.note(letter + 63, 1, 0, 1, 0);
            x.note(letter, 1, 0, 2, 3);
            x.note(letter + 63, 1, 0, 3, 3);
            x.signsAre("by STEPS", 1, 1, 0, 0);
            x.rule(1, 1);
            x.signsAre("by STEPS and VOICES", 1, 1, 1, 1);
            x.rule(0, 1);
            x.signsAre("by LETTERS and VOICES", 1, 0, 1, 0);
            x.rule(1, 0);
            x.signsAre("by LETTERS", 1, 0, 0, 0);
        }
        // Neighbours never share one: the last VOICE of a STEP, the first of the next one.
        Staff y = new Staff();
        y.rule(1, 1);
        for (int step = 0; step < 7; step++) y.note(step, 1, 0, step, 3);
        for (int step = 1; step < 8; step++) y.note(step, 1, 0, 10 + step, 0);
        for (int n = 0; n < 14; n++) due("NOTE " + n, y.sign(n, 0), 1);
    }

    private static void stateAtTheBeginningOfABar() {
        says("Each SEAT has a STATE: at the beginning of a BAR the ALTER of its letter by the KEY");
        Staff x = new Staff();
        x.note(31, 2, 0, 999, 0);
        x.note(31, 2, 1, 0, 0);
        x.note(31, 0, 2, 0, 0);
        x.note(31, 2, 19, 0, 0);
        x.signsAre("a sign ends with its BAR", 1, 1, 0, 1);
        x.key(2, 1);
        x.signsAre("with a KEY from BAR 2 on", 1, 1, 1, 0);
        x.key(0, 7);
        x.signsAre("with a KEY from BAR 0 on", 0, 0, 1, 0);
        Staff mixed = new Staff();
        mixed.note(31, 2, 0, 0, 0);
        mixed.note(31, 0, 0, 0, 0);
        mixed.note(31, 0, 1, 0, 0);
        mixed.signsAre("MIXED ends with its BAR", 1, 1, 0);
    }

    private static void toldByTheStatesAhead() {
        says("CHORD by CHORD in ORDER, SEAT by SEAT in it, all told by the STATES ahead of the CHORD");
        Staff x = new Staff();
        x.rule(0, 1);
        x.rule(2, 2);
        x.note(30, 2, 0, 5, 0);
        x.note(37, 2, 0, 5, 0);
        x.note(44, 2, 0, 5, 0);
        x.signsAre("three STEPS of one SEAT", 1, 1, 1);
        x.note(51, 2, 0, 6, 0);
        x.signsAre("and one in the next CHORD", 1, 1, 1, 0);
        x.note(58, 2, 0, 4, 0);
        x.signsAre("and one in the CHORD before, told last", 0, 0, 0, 0, 1);
        // A courtesy for another octave looks at what is ahead of the CHORD alone.
        Staff y = new Staff();
        y.rule(2, 2);
        y.note(37, 0, 0, 5, 0);
        y.note(30, 2, 0, 5, 0);
        y.note(44, 0, 0, 6, 0);
        y.signsAre("another octave in its CHORD", 0, 1, 2);
    }

    private static void unlikeAlters() {
        says("If NOTES of the SEAT in the CHORD (TIED ones, too) have unlike ALTERS: each that is not TIED NEEDS a sign");
        Staff x = new Staff();
        for (int alter = -4; alter <= 4; alter++) x.note(30, alter, 0, 0, 0);
        x.signsAre("all nine ALTERS", 1, 1, 1, 1, 1, 1, 1, 1, 1);
        Staff y = new Staff();
        y.note(30, 0, 0, 0, 0);
        y.note(30, 1, 0, 0, 0);
        y.signsAre("that of the KEY, too", 1, 1);
        y.drop();
        y.signsAre("alone it needs none", 0);
        y.note(30, 1, 0, 1, 0);
        y.signsAre("in the next CHORD it is not MIXED", 0, 1);
        Staff mixed = new Staff();
        mixed.note(30, 0, 0, 0, 0);
        mixed.note(30, 2, 0, 0, 0);
        mixed.note(30, 2, 0, 1, 0);
        mixed.note(30, 2, 0, 2, 0);
        mixed.signsAre("then the STATE is MIXED, until it is told", 1, 1, 1, 0);
        mixed.note(37, 2, 0, 1, 0);
        mixed.note(37, 0, 0, 2, 0);
        mixed.rule(0, 1);
        mixed.signsAre("MIXED in one CHORD after another", 1, 1, 1, 1, 1, 1);
    }

    private static void unlikeTheFirstAlone() {
        says("but of those with one STEP and ALTER the first alone");
        Staff x = new Staff();
        x.note(30, 0, 0, 0, 0);
        x.note(30, 2, 0, 0, 1);
        x.note(30, 0, 0, 0, 2);
        x.note(30, 2, 0, 0, 3);
        x.note(30, 0, 0, 0, 0);
        x.note(37, 0, 0, 0, 0);
        x.note(37, 2, 0, 0, 0);
        x.signsAre("by STEPS", 1, 1, 0, 0, 0, 1, 1);
        x.rule(0, 1);
        x.signsAre("by LETTERS", 1, 1, 0, 0, 0, 1, 1);
        x.drop();
        x.signsAre("one STEP with that of the KEY alone, by LETTERS", 1, 1, 0, 0, 0, 1);
        x.rule(0, 0);
        x.signsAre("and by STEPS", 1, 1, 0, 0, 0, 0);
        x.rule(1, 1);
        x.signsAre("and by VOICES", 0, 1, 0, 1, 0, 0);
        // A TIED one is not the first of them.
        Staff y = new Staff();
        y.note(30, 2, 0, 0, 0);
        y.note(30, 2, 1, 0, 0);
        y.mark(1, 0, 1);
        y.note(30, 2, 1, 0, 1);
        y.note(30, 2, 1, 0, 2);
        y.note(30, 0, 1, 0, 3);
        y.signsAre("beside a TIED one", 1, 0, 1, 0, 1);
    }

    private static void unlikeTiedOnes() {
        says("(TIED ones, too) have unlike ALTERS .. then the STATE is MIXED");
        Staff x = new Staff();
        x.note(30, 2, 0, 0, 0);
        x.note(30, 0, 0, 0, 1);
        x.note(30, 2, 1, 0, 0);
        x.note(30, 0, 1, 0, 1);
        x.note(30, 0, 1, 1, 0);
        x.signsAre("none TIED", 1, 1, 1, 1, 1);
        x.mark(2, 0, 1);
        x.signsAre("the first TIED", 1, 1, 0, 1, 1);
        x.mark(3, 0, 1);
        x.signsAre("both TIED, and MIXED", 1, 1, 0, 0, 1);
        x.rule(1, 1);
        x.signsAre("by VOICES nothing is MIXED", 1, 0, 0, 0, 0);
    }

    private static void likeAlters() {
        says("if the STATE was another one, or MIXED, the first that is not TIED of each STEP NEEDS a sign");
        Staff x = new Staff();
        x.note(30, 2, 0, 0, 0);
        x.note(30, 2, 1, 0, 0);
        x.mark(1, 0, 1);
        x.note(30, 2, 1, 0, 1);
        x.note(30, 2, 1, 0, 2);
        x.note(37, 2, 1, 0, 0);
        x.note(37, 2, 1, 0, 1);
        x.note(30, 2, 1, 1, 3);
        x.signsAre("by STEPS", 1, 0, 1, 0, 1, 0, 0);
        x.rule(0, 1);
        x.signsAre("by LETTERS", 1, 0, 1, 0, 1, 0, 0);
        x.key(1, 7);
        x.signsAre("as the STATE was", 1, 0, 0, 0, 0, 0, 0);
        // Whichever STEP or VOICE is told first.
        for (int first = 0; first < 4; first++) {
            for (int second = 0; second < 4; second++) {
                if (first == second) continue;
                Staff steps = new Staff();
                steps.rule(0, 1);
                steps.note(16 + 7 * first, 2, 0, 0, 0);
                steps.note(16 + 7 * second, 2, 0, 0, 0);
                steps.note(16 + 7 * first, 2, 0, 0, 0);
                steps.signsAre("octave " + first + " ahead of " + second, 1, 1, 0);
                Staff voices = new Staff();
                voices.rule(1, 1);
                voices.note(30, 2, 0, 0, first);
                voices.note(30, 2, 0, 0, second);
                voices.note(30, 2, 0, 0, first);
                voices.signsAre("VOICE " + first + " ahead of " + second, 1, 1, 0);
            }
        }
    }

    private static void likeOnesAllTied() {
        says("Else, if one is not TIED: its ALTER is the STATE from then on");
        Staff x = new Staff();
        x.note(30, 2, 0, 0, 0);
        x.note(30, 2, 1, 0, 0);
        x.note(30, 2, 1, 1, 0);
        x.note(30, 0, 1, 2, 0);
        x.signsAre("not TIED", 1, 1, 0, 1);
        x.mark(1, 0, 1);
        x.signsAre("TIED, the STATE is that of the KEY", 1, 0, 1, 1);
        x.mark(2, 0, 1);
        x.signsAre("both TIED", 1, 0, 0, 0);
        // A TIED one leaves MIXED as it is.
        Staff y = new Staff();
        y.note(30, 2, 0, 0, 0);
        y.note(30, 0, 0, 0, 0);
        y.note(30, 0, 0, 1, 0);
        y.mark(2, 0, 1);
        y.note(30, 0, 0, 2, 0);
        y.signsAre("a TIED one after MIXED", 1, 1, 0, 1);
    }

    private static void oldNatural() {
        says("By OLD a sign that is NEEDED with ALTER 2 or -2 has a natural ahead of it, if the STATE .. was twice that");
        for (int state = -4; state <= 4; state++) {
            for (int alter = -4; alter <= 4; alter++) {
                for (int old = 0; old < 2; old++) {
                    Staff x = new Staff();
                    x.rule(3, old);
                    x.note(30, state, 0, 0, 0);
                    x.note(30, alter, 0, 1, 0);
                    boolean natural = old == 1 && (state == 4 && alter == 2 || state == -4 && alter == -2);
                    due("OLD " + old + ", " + alter + " after " + state, x.sign(1, 2), natural ? 1 : 0);
                }
            }
        }
        Staff late = new Staff();
        late.rule(3, 1);
        late.note(30, 4, 0, 0, 0);
        late.note(30, 2, 0, 2, 0);
        due("a natural ahead", late.sign(1, 2), 1);
        late.note(30, 2, 0, 1, 0);
        due("a sign between, and none is NEEDED", late.sign(1, 2), 0);
        due("the sign between has it", late.sign(2, 2), 1);
        Staff bar = new Staff();
        bar.rule(3, 1);
        bar.rule(2, 15);
        bar.note(30, 4, 0, 999, 0);
        bar.note(30, 2, 1, 0, 0);
        bar.note(30, 2, 1, 1, 0);
        due("not over the end of a BAR", bar.sign(1, 2), 0);
        due("a COURTESY", bar.sign(2, 0), 2);
        due("not ahead of a COURTESY", bar.sign(2, 2), 0);
        Staff mixed = new Staff();
        mixed.rule(3, 1);
        mixed.note(30, 4, 0, 0, 0);
        mixed.note(30, 2, 0, 0, 0);
        mixed.note(30, 2, 0, 1, 0);
        due("by the STATE ahead of the CHORD", mixed.sign(1, 2), 0);
        due("not after MIXED", mixed.sign(2, 2), 0);
        Staff second = new Staff();
        second.rule(3, 1);
        second.note(30, -4, 0, 0, 0);
        second.note(30, -2, 0, 1, 0);
        second.note(30, -2, 0, 1, 1);
        second.note(30, 0, 0, 1, 2);
        due("among unlike ones", second.sign(1, 2), 1);
        due("one without a sign", second.sign(2, 2), 0);
        due("a natural itself", second.sign(3, 2), 0);
    }

    // ---- Part 2: COURTESIES

    private static void courtesyByEachBit() {
        says("has a sign as a COURTESY, if one of these is among the bits: 1 .. 2 .. 4 .. 8");
        for (int bits = 0; bits < 16; bits++) {
            due("bits " + bits + ", by the BAR before", byBarBefore(bits).sign(1, 0), (bits & 1) != 0 ? 2 : 0);
            due("bits " + bits + ", by an octave", byOctave(bits).sign(1, 0), (bits & 2) != 0 ? 2 : 0);
            due("bits " + bits + ", by a tie", byTie(bits).sign(2, 0), (bits & 4) != 0 ? 2 : 0);
            due("bits " + bits + ", by the KEY", byKeyBefore(bits).sign(1, 0), (bits & 8) != 0 ? 2 : 0);
        }
        due("none at all", byBarBefore(0).count(2), 0);
        due("one", byBarBefore(1).count(2), 1);
    }

    private static Staff byBarBefore(int bits) {
        Staff x = new Staff();
        x.rule(2, bits);
        x.note(30, 2, 0, 0, 0);
        x.note(30, 0, 1, 0, 0);
        return x;
    }

    private static Staff byOctave(int bits) {
        Staff x = new Staff();
        x.rule(2, bits);
        x.note(30, 2, 0, 0, 0);
        x.note(37, 0, 0, 1, 0);
        return x;
    }

    /** An empty BAR stands between, so that bit 1 gives no COURTESY here. */
    private static Staff byTie(int bits) {
        Staff x = new Staff();
        x.rule(2, bits);
        x.note(30, 2, 0, 0, 0);
        x.note(30, 2, 2, 0, 0);
        x.mark(1, 0, 1);
        x.note(30, 0, 2, 1, 0);
        return x;
    }

    /** The BAR before ends with f sharp, which its KEY does not have, so that bit 1 gives no COURTESY here. */
    private static Staff byKeyBefore(int bits) {
        Staff x = new Staff();
        x.rule(2, bits);
        x.key(1, 1);
        x.note(31, 2, 0, 0, 0);
        x.note(31, 2, 1, 0, 0);
        return x;
    }

    private static void courtesyNotTied() {
        says("A NOTE that is not TIED, needs none");
        Staff x = byKeyBefore(15);
        due("not TIED", x.sign(1, 0), 2);
        x.mark(1, 0, 1);
        due("TIED", x.sign(1, 0), 0);
        x.mark(1, 0, 0);
        x.key(1, 0);
        due("it needs one", x.sign(1, 0), 1);
        due("COURTESIES", x.count(2), 0);
        due("NEEDED", x.count(1), 2);
    }

    private static void courtesyFirstOfItsStep() {
        says("is the first of its SEAT and STEP in the CHORD (TIED ones left out)");
        Staff x = new Staff();
        x.rule(2, 8);
        x.key(1, 1);
        x.note(31, 2, 0, 0, 0);
        x.note(31, 2, 1, 0, 0);
        x.note(31, 2, 1, 0, 1);
        x.note(31, 2, 1, 0, 2);
        x.signsAre("the first of three", 1, 2, 0, 0);
        x.mark(1, 0, 1);
        x.signsAre("the first that is not TIED", 1, 0, 2, 0);
        // Of unlike ones the second of a STEP and ALTER needs none, and is not the first of its STEP.
        Staff y = new Staff();
        y.rule(2, 15);
        y.note(30, 2, 0, 0, 0);
        y.note(30, 0, 1, 0, 0);
        y.note(30, -2, 1, 0, 1);
        y.note(30, 0, 1, 0, 2);
        y.signsAre("among unlike ones", 1, 1, 1, 0);
    }

    private static void courtesyFirstOfItsSeat() {
        says("and the first NOTE of its SEAT in the BAR that is shown one so");
        Staff x = new Staff();
        x.rule(2, 8);
        x.key(1, 1);
        x.note(31, 2, 1, 0, 0);
        x.note(31, 2, 1, 999, 3);
        x.note(38, 2, 1, 0, 0);
        x.note(31, 2, 2, 0, 0);
        x.signsAre("by STEPS", 2, 0, 2, 0);
        x.rule(0, 1);
        x.signsAre("by LETTERS", 2, 0, 0, 0);
        x.rule(1, 1);
        x.signsAre("by LETTERS and VOICES", 2, 2, 0, 0);
        x.key(2, 0);
        x.key(3, 1);
        x.note(31, 2, 3, 0, 0);
        x.rule(0, 0);
        x.rule(1, 0);
        x.signsAre("in another BAR again", 2, 0, 2, 1, 2);
        // A sign that is NEEDED does not take its place.
        Staff y = new Staff();
        y.rule(2, 8);
        y.key(1, 1);
        y.note(31, 0, 1, 0, 0);
        y.note(31, 0, 1, 1, 0);
        y.note(31, 0, 1, 2, 0);
        y.signsAre("after one that is NEEDED", 1, 2, 0);
    }

    private static void courtesyNoBarBefore() {
        says("1 there is a BAR before, at the end of which its SEAT's STATE was MIXED or another ALTER");
        Staff first = new Staff();
        first.rule(2, 1);
        first.key(0, 1);
        first.note(31, 2, 0, 0, 0);
        first.signsAre("BAR 0 has none before", 0);
        // The STATE at the end counts, not those before it.
        int[][] alters = {{2, 0, 0}, {0, 2, 2}, {2, 2, 2}, {0, 0, 0}, {2, 1, 2}};
        for (int[] a : alters) {
            Staff x = new Staff();
            x.rule(2, 1);
            x.note(30, a[0], 18, 0, 0);
            x.note(30, a[1], 18, 999, 0);
            x.note(30, 0, 19, 0, 0);
            due("BAR 18 with " + Arrays.toString(a), x.sign(2, 0), a[2] == 0 ? 0 : 2);
        }
        Staff mixed = new Staff();
        mixed.rule(2, 1);
        mixed.note(30, 0, 0, 0, 0);
        mixed.note(30, 2, 0, 0, 0);
        mixed.note(30, 0, 1, 0, 0);
        mixed.signsAre("MIXED", 1, 1, 2);
        mixed.note(30, 0, 0, 1, 0);
        mixed.signsAre("MIXED, but natural at its end", 1, 1, 0, 1);
        Staff gap = new Staff();
        gap.rule(2, 1);
        gap.note(30, 2, 0, 0, 0);
        gap.note(30, 0, 2, 0, 0);
        gap.signsAre("only the BAR next before", 1, 0);
        // Its own BAR has had NOTES of the SEAT, and the BAR before is asked all the same.
        Staff late = new Staff();
        late.rule(2, 1);
        late.note(30, 2, 0, 0, 0);
        late.note(30, 1, 1, 0, 0);
        late.note(30, 2, 1, 1, 0);
        late.note(30, 2, 1, 2, 0);
        late.note(30, 0, 1, 3, 0);
        late.note(30, 0, 1, 4, 0);
        late.signsAre("late in the BAR", 1, 1, 1, 0, 1, 2);
        // An older BAR is not taken for the BAR before, which is empty.
        Staff older = new Staff();
        older.rule(2, 1);
        older.note(30, 2, 0, 0, 0);
        older.note(30, 2, 2, 0, 0);
        older.note(30, 2, 2, 1, 0);
        older.signsAre("late in the BAR, after an empty one", 1, 1, 2);
        // A TIED NOTE changes no STATE at the end of a BAR either.
        Staff tied = new Staff();
        tied.rule(2, 1);
        tied.note(30, 2, 0, 0, 0);
        tied.note(30, 2, 1, 0, 0);
        tied.mark(1, 0, 1);
        tied.note(30, 0, 2, 0, 0);
        tied.signsAre("after a BAR with a TIED one alone", 1, 0, 0);
        Staff other = new Staff();
        other.rule(2, 1);
        other.rule(1, 1);
        other.note(30, 2, 0, 0, 0);
        other.note(30, 0, 1, 0, 1);
        other.signsAre("the BAR before had it in another VOICE", 1, 0);
        other.rule(1, 0);
        other.signsAre("for all VOICES", 1, 2);
    }

    private static void courtesySeatWithoutNotes() {
        says("(a SEAT without NOTES in that BAR has the KEY's there)");
        Staff x = new Staff();
        x.rule(2, 1);
        x.key(5, 1);
        x.note(31, 2, 5, 0, 0);
        x.note(32, 0, 5, 0, 0);
        x.note(31, 2, 6, 0, 0);
        x.signsAre("an empty BAR before with another KEY", 2, 0, 0);
        x.note(31, 2, 4, 0, 0);
        x.signsAre("a NOTE in it", 0, 0, 0, 1);
        x.drop();
        x.note(38, 2, 4, 0, 0);
        x.signsAre("a NOTE in it, an octave above", 2, 0, 0, 1);
        x.rule(0, 1);
        x.signsAre("of the same LETTER", 0, 0, 0, 1);
    }

    private static void courtesyOctaves() {
        says("2 OCTAVES is 0, and another SEAT of its LETTER .. has had a NOTE in the BAR ahead of the CHORD");
        for (int octave = 0; octave < 10; octave++) {
            if (octave == 4) continue;
            Staff x = new Staff();
            x.rule(2, 2);
            x.note(2 + 7 * octave, 2, 0, 0, 0);
            x.note(30, 0, 0, 1, 0);
            x.signsAre("octave " + octave, 1, 2);
            x.rule(0, 1);
            x.signsAre("octave " + octave + ", OCTAVES 1", 1, 1);
            x.rule(0, 0);
            x.note(2 + 7 * octave, 0, 0, 0, 0);
            x.signsAre("octave " + octave + ", MIXED", 1, 2, 1);
            x.drop();
            x.rule(1, 1);
            x.note(30, 0, 0, 1, 3);
            x.signsAre("octave " + octave + ", VOICES 1", 1, 2, 0);
        }
        Staff again = new Staff();
        again.rule(2, 2);
        again.note(37, 2, 0, 0, 0);
        again.note(37, 0, 0, 1, 0);
        again.note(30, 0, 0, 2, 0);
        again.signsAre("natural again ahead of the CHORD", 1, 1, 0);
        Staff bar = new Staff();
        bar.rule(2, 2);
        bar.note(37, 2, 0, 999, 0);
        bar.note(30, 0, 1, 0, 0);
        bar.signsAre("in another BAR", 1, 0);
        Staff near = new Staff();
        near.rule(2, 2);
        near.note(29, 2, 0, 0, 0);
        near.note(31, 2, 0, 0, 0);
        near.note(30, 0, 0, 1, 0);
        near.signsAre("another LETTER", 1, 1, 0);
        // A TIED NOTE is a NOTE, and its SEAT's STATE that of the KEY.
        Staff tied = new Staff();
        tied.rule(2, 2);
        tied.key(1, 7);
        tied.note(37, 0, 0, 0, 0);
        tied.note(37, 0, 1, 0, 0);
        tied.mark(1, 0, 1);
        tied.note(30, 0, 1, 1, 0);
        tied.note(30, 0, 1, 2, 0);
        tied.signsAre("a TIED one in another octave", 0, 0, 1, 2);
    }

    private static void courtesyTieFromABarBefore() {
        says("4 a NOTE of its SEAT that is TIED to one in a BAR before stands ahead of the CHORD in its BAR");
        Staff x = new Staff();
        x.rule(2, 4);
        x.note(30, 2, 0, 0, 0);
        x.note(30, 2, 19, 0, 0);
        x.mark(1, 0, 1);
        x.note(30, 0, 19, 1, 0);
        x.note(30, 0, 19, 2, 0);
        x.signsAre("TIED over all BARS", 1, 0, 2, 0);
        x.note(30, 2, 18, 0, 0);
        x.signsAre("TIED to another one", 1, 0, 2, 0, 1);
        x.note(30, 0, 18, 1, 0);
        x.signsAre("it can't be TIED", 1, 1, 1, 0, 1, 1);
        Staff inBar = new Staff();
        inBar.rule(2, 4);
        inBar.key(0, 7);
        inBar.note(30, 2, 0, 0, 0);
        inBar.note(30, 2, 0, 1, 0);
        inBar.mark(1, 0, 1);
        inBar.note(30, 0, 0, 2, 0);
        inBar.note(30, 0, 0, 3, 0);
        inBar.signsAre("TIED in the BAR", 0, 0, 1, 0);
        Staff chord = new Staff();
        chord.rule(2, 4);
        chord.rule(0, 1);
        chord.note(30, 0, 0, 0, 0);
        chord.note(30, 0, 1, 5, 0);
        chord.mark(1, 0, 1);
        chord.note(37, 0, 1, 5, 0);
        chord.note(37, 0, 1, 6, 0);
        chord.signsAre("the same ALTER", 0, 0, 0, 0);
        // TIED to one that is TIED itself: the nearest one counts.
        Staff chain = new Staff();
        chain.rule(2, 4);
        chain.note(30, 2, 0, 0, 0);
        chain.note(30, 2, 1, 0, 0);
        chain.note(30, 2, 1, 1, 0);
        chain.mark(1, 0, 1);
        chain.mark(2, 0, 1);
        chain.note(30, 0, 1, 2, 0);
        chain.signsAre("a chain of ties", 1, 0, 0, 2);
        Staff earlier = new Staff();
        earlier.rule(2, 4);
        earlier.note(30, 2, 0, 0, 0);
        earlier.note(30, 2, 1, 0, 0);
        earlier.mark(1, 0, 1);
        earlier.note(30, 0, 2, 0, 0);
        earlier.signsAre("TIED into the BAR before", 1, 0, 0);
        for (int alter = -4; alter <= 4; alter++) {
            for (int off = -7; off <= 7; off++) {
                Staff each = new Staff();
                each.rule(2, 4);
                each.note(30, alter, 0, 0, 0);
                each.note(30, alter, 1, 0, 0);
                each.mark(1, 0, 1);
                each.note(30 + off, 0, 1, 1, 0);
                due("after a TIED " + alter + ", " + off + " above it", each.sign(2, 0), alter != 0 && off == 0 ? 2 : 0);
            }
        }
        Staff voice = new Staff();
        voice.rule(2, 4);
        voice.note(30, 2, 0, 0, 0);
        voice.note(30, 2, 1, 0, 0);
        voice.mark(1, 0, 1);
        voice.note(30, 0, 1, 1, 3);
        voice.signsAre("for all VOICES", 1, 0, 2);
        voice.rule(1, 1);
        voice.signsAre("for its VOICE", 1, 0, 0);
    }

    private static void courtesyKeyOfTheBarBefore() {
        says("8 the KEY of the BAR before alters its LETTER otherwise than that of this one");
        for (int before = -7; before <= 7; before++) {
            for (int now = -7; now <= 7; now++) {
                Staff x = new Staff();
                x.rule(2, 8);
                x.key(18, before);
                x.key(19, now);
                for (int letter = 0; letter < 7; letter++) x.note(letter, byKey(now, letter), 19, 0, 0);
                for (int letter = 0; letter < 7; letter++) {
                    due("from " + before + " to " + now + ", letter " + letter, x.sign(letter, 0),
                        byKey(before, letter) == byKey(now, letter) ? 0 : 2);
                }
            }
        }
        Staff first = new Staff();
        first.rule(2, 8);
        first.key(0, 7);
        first.note(30, 2, 0, 0, 0);
        first.note(30, 2, 1, 0, 0);
        first.signsAre("BAR 0 has none before", 0, 0);
    }

    private static void courtesyChangesNoState() {
        says("A COURTESY changes no STATE");
        Staff x = byTie(4);
        x.note(30, 2, 2, 2, 0);
        x.note(30, 0, 2, 3, 0);
        x.signsAre("after a COURTESY", 1, 0, 2, 1, 1);
        Staff y = byOctave(2);
        y.note(37, 0, 0, 2, 0);
        y.note(37, 2, 0, 3, 0);
        y.note(30, 2, 0, 4, 0);
        y.signsAre("after a COURTESY in another octave", 1, 2, 0, 1, 0);
        y.drop();
        y.note(30, 2, 0, 3, 0);
        y.signsAre("ahead of the CHORD the other octave was natural", 1, 2, 0, 1, 2);
    }

    // ---- Part 3: COLUMNS

    private static final int[] WIDTHS = {16, 12, 9, 9, 7, 8, 10, 14, 10};

    /** A staff whose last NOTE has a sign of this ALTER, NEEDED or as a COURTESY; it stands alone in its CHORD. */
    private static Staff withSign(int alter, boolean courtesy) {
        Staff x = new Staff();
        x.rule(2, courtesy ? 1 : 0);
        x.note(30, alter == 0 ? 1 : 0, 0, 0, 0);
        x.note(30, alter == 1 ? 0 : 1, 1, 0, 0);
        x.note(30, alter, 1, 1, 0);
        x.note(30, alter, 1, 2, 0);
        return x;
    }

    private static void widthsByAlter() {
        says("A sign's WIDTH by the size of its ALTER below 0, 4 .. 1: 16, 12, 9, 9; 0: 7; above, 1 .. 4: 8, 10, 14, 10");
        for (int alter = -4; alter <= 4; alter++) {
            Staff x = withSign(alter, true);
            due("NEEDED, " + alter, x.sign(2, 0), 1);
            due("WIDTH of " + alter, x.sign(2, 3), WIDTHS[alter + 4]);
            due("extent of " + alter, x.extent(1, 1), WIDTHS[alter + 4]);
            due("a COURTESY, " + alter, x.sign(3, 0), 2);
            due("WIDTH in brackets of " + alter, x.sign(3, 3), WIDTHS[alter + 4] + 8);
            due("extent in brackets of " + alter, x.extent(1, 2), WIDTHS[alter + 4] + 8);
        }
    }

    private static void widthsOfGraces() {
        says("7 more with a natural ahead; of a GRACE two thirds of all, rounded up");
        int[] grace = {11, 8, 6, 6, 5, 6, 7, 10, 7};
        int[] inBrackets = {16, 14, 12, 12, 10, 11, 12, 15, 12};
        for (int alter = -4; alter <= 4; alter++) {
            Staff x = withSign(alter, true);
            x.mark(2, 1, 1);
            x.mark(3, 1, 1);
            due("a GRACE of " + alter, x.sign(2, 3), grace[alter + 4]);
            due("a GRACE in brackets of " + alter, x.sign(3, 3), inBrackets[alter + 4]);
            due("its extent", x.extent(1, 2), inBrackets[alter + 4]);
        }
        for (int side = -1; side <= 1; side += 2) {
            Staff x = new Staff();
            x.rule(3, 1);
            x.note(30, 4 * side, 0, 0, 0);
            x.note(30, 2 * side, 0, 1, 0);
            due("a natural ahead of " + 2 * side, x.sign(1, 3), side > 0 ? 17 : 16);
            x.mark(1, 1, 1);
            due("a GRACE with a natural ahead", x.sign(1, 3), side > 0 ? 12 : 11);
        }
        Staff none = new Staff();
        none.note(30, 0, 0, 0, 0);
        none.mark(0, 1, 1);
        due("a GRACE without a sign", none.sign(0, 3), 0);
    }

    private static int up(int alter) {
        return alter < 0 ? 4 : alter == 4 ? 1 : 3;
    }

    private static int down(int alter) {
        return alter < 0 ? 2 : alter == 4 ? 1 : 3;
    }

    private static void reachesOfPairs() {
        says("can stand in one COLUMN, if that of the higher NOTE stands by at least its DOWN and the UP of the other one");
        for (int high = -4; high <= 4; high++) {
            for (int low = -4; low <= 4; low++) {
                for (int distance = 1; distance <= 8; distance++) {
                    Staff x = new Staff();
                    x.note(20, low == 1 ? 0 : 1, 0, 0, 0);
                    x.note(20 + distance, high == 1 ? 0 : 1, 0, 0, 0);
                    x.note(20, low, 0, 1, 0);
                    x.note(20 + distance, high, 0, 1, 0);
                    boolean share = distance >= down(high) + up(low);
                    String name = high + " above " + low + " by " + distance;
                    due(name + ", the higher", x.sign(3, 4), 0);
                    due(name + ", the lower", x.sign(2, 4), share ? 0 : 1);
                    int wide = WIDTHS[high + 4];
                    int other = WIDTHS[low + 4];
                    due(name + ", extent", x.extent(0, 1), share ? Math.max(wide, other) : wide + other);
                }
            }
        }
    }

    private static void reachesInBrackets() {
        says("in brackets 2 and 2 at least");
        // By KEY -7 to 7 no ALTER is 4; so both STEPS are told 4 first, and are a COURTESY by bit 1 afterwards.
        for (int high = -4; high <= 4; high += 2) {
            for (int low = -4; low <= 4; low += 2) {
                for (int distance = 1; distance <= 8; distance++) {
                    if (distance == 7 || high == 0 || low == 0) continue;
                    Staff x = new Staff();
                    x.rule(2, 1);
                    for (int time = 0; time < 2; time++) {
                        x.note(20, low, 1, time, 0);
                        x.note(20 + distance, high, 1, time, 0);
                    }
                    boolean share = distance >= Math.max(2, down(high)) + Math.max(2, up(low));
                    String name = high + " above " + low + " by " + distance + " in brackets";
                    due(name + ", its sign", x.sign(3, 0), 2);
                    due(name + ", the higher", x.sign(3, 4), 0);
                    due(name + ", the lower", x.sign(2, 4), share ? 0 : 1);
                }
            }
        }
    }

    private static void neverAtOnePlace() {
        says("(of NOTES at one place never)");
        for (int first = -4; first <= 4; first++) {
            for (int second = -4; second <= 4; second++) {
                if (first == second) continue;
                Staff x = new Staff();
                x.note(30, first, 0, 0, 0);
                x.note(30, second, 0, 0, 1);
                due("the lesser number", x.sign(0, 4), 0);
                due("the greater number", x.sign(1, 4), 1);
                due("both", x.extent(0, 0), WIDTHS[first + 4] + WIDTHS[second + 4]);
            }
        }
        Staff like = new Staff();
        like.rule(1, 1);
        like.note(30, 4, 0, 0, 0);
        like.note(30, 4, 0, 0, 3);
        due("like ones of two VOICES", like.extent(0, 0), 20);
    }

    private static void zigzagOfLikeOnes() {
        says("the first, the last, the second, the last but one, and so on");
        // At one place each sign has its own COLUMN, so the COLUMNS are the ZIGZAG itself.
        int[] alters = {4, 3, 2, 1, 0, -1, -2, -3, -4};
        for (int number = 2; number <= 9; number++) {
            Staff x = new Staff();
            int sum = 0;
            for (int i = 0; i < number; i++) {
                x.note(30, alters[i], 0, 0, 0);
                sum += WIDTHS[alters[i] + 4];
            }
            for (int i = 0; i < number; i++) {
                int fromEnd = number - 1 - i;
                due(number + " signs, number " + i, x.sign(i, 4), i <= fromEnd ? 2 * i : 2 * fromEnd + 1);
            }
            due(number + " signs, their WIDTHS", x.extent(0, 0), sum);
        }
        Staff one = new Staff();
        one.note(30, 2, 0, 0, 0);
        due("one sign", one.sign(0, 4), 0);
        Staff most = new Staff();
        most.rule(1, 1);
        for (int n = 0; n < 36; n++) most.note(30, n % 9 - 4, 0, 0, n / 9);
        for (int n = 0; n < 36; n++) due("36 at one place, " + n, most.sign(n, 4), n < 18 ? 2 * n : 2 * (35 - n) + 1);
        due("36 at one place", most.extent(0, 0), 4 * (16 + 12 + 9 + 9 + 7 + 8 + 10 + 14 + 10));
    }

    /** In turn the two wide ones would stand in two COLUMNS. */
    private static Staff sixSigns() {
        Staff x = new Staff();
        int[] steps = {60, 44, 40, 34, 30, 16};
        int[] alters = {1, 1, -4, 1, -4, 1};
        for (int i = 0; i < 6; i++) x.note(steps[i], alters[i], 0, 0, 0);
        return x;
    }

    private static void sixSignsAtMost() {
        says("With 6 signs at most: of all ways .. the least sum of WIDTHS is taken");
        Staff x = sixSigns();
        int[] searched = {0, 0, 1, 0, 1, 0};
        due("six", x.extent(0, 0), 24);
        for (int n = 0; n < 6; n++) due("six, COLUMN of " + n, x.sign(n, 4), searched[n]);
        x.note(68, 0, 0, 0, 0);
        due("six, and a NOTE without a sign", x.extent(0, 0), 24);
        x.drop();
        x.note(68, 1, 0, 0, 0);
        due("seven", x.extent(0, 0), 32);
        int[] inTurn = {0, 0, 1, 1, 0, 0, 0};
        for (int n = 0; n < 7; n++) due("seven, COLUMN of " + n, x.sign(n, 4), inTurn[n]);
        x.drop();
        due("six again", x.extent(0, 0), 24);
        x.note(68, 1, 0, 1, 0);
        due("a seventh in another CHORD", x.extent(0, 0), 24);
        // Six that can't share: COLUMNS 0 .. 5 are all taken.
        Staff all = new Staff();
        for (int i = 0; i < 6; i++) all.note(30, i - 4, 0, 0, 0);
        int[] each = {0, 2, 4, 5, 3, 1};
        for (int i = 0; i < 6; i++) due("six at one place, " + i, all.sign(i, 4), each[i]);
    }

    private static void leastWhereTheyDifferFirst() {
        says("of these the one whose COLUMNS, in ZIGZAG, are less where they differ first");
        // The middle one can stand with neither; the outer ones with each other.
        Staff x = new Staff();
        x.note(36, 2, 0, 0, 0);
        x.note(33, 2, 0, 0, 0);
        x.note(30, 2, 0, 0, 0);
        due("the highest", x.sign(0, 4), 0);
        due("the lowest", x.sign(2, 4), 0);
        due("the middle one", x.sign(1, 4), 1);
        // The lowest could stand with either: with the first one in ZIGZAG it is less.
        Staff y = new Staff();
        y.note(40, 2, 0, 0, 0);
        y.note(39, 2, 0, 0, 0);
        y.note(30, 2, 0, 0, 0);
        due("the highest of two near ones", y.sign(0, 4), 0);
        due("the lower of two near ones", y.sign(1, 4), 1);
        due("one far below", y.sign(2, 4), 0);
        due("all of them", y.extent(0, 0), 20);
        // Less where they differ first, but not with a greater sum: the wide one goes to the wide one.
        Staff z = new Staff();
        z.note(40, 1, 0, 0, 0);
        z.note(39, -4, 0, 0, 0);
        z.note(30, -4, 0, 0, 0);
        due("the narrow one", z.sign(0, 4), 0);
        due("the lowest", z.sign(2, 4), 1);
        due("with the wide one", z.sign(1, 4), 1);
        due("their sum", z.extent(0, 0), 24);
    }

    private static void withMoreThanSix() {
        says("With more: in ZIGZAG each one takes the least COLUMN in which it can stand with all that are there");
        Staff x = new Staff();
        for (int i = 0; i < 10; i++) x.note(6 + 6 * i, 2, 0, 0, 0);
        due("ten that can stand together", x.extent(0, 0), 10);
        for (int i = 0; i < 10; i++) due("COLUMN of " + i, x.sign(i, 4), 0);
        Staff y = new Staff();
        for (int i = 0; i < 7; i++) y.note(30 + i, 2, 0, 0, 0);
        // From the top 36 30 35 31 34 32 33: 36 and 30 are 6 apart, all others nearer.
        int[] want = {0, 2, 4, 5, 3, 1, 0};
        for (int i = 0; i < 7; i++) due("seven in a row, " + i, y.sign(i, 4), want[i]);
        due("seven in a row", y.extent(0, 0), 60);
        Staff full = new Staff();
        for (int n = 0; n < 60; n++) full.note(n, 1, 0, 0, n % 4);
        due("sixty signs in one CHORD", full.count(1), 60);
        int[] wide = new int[60];
        int most = 0;
        for (int n = 0; n < 60; n++) {
            int column = full.sign(n, 4);
            due("its COLUMN is there, NOTE " + n, column >= 0 && column < 60 ? 1 : 0, 1);
            wide[Math.max(0, column)] = 8;
            most = Math.max(most, column);
            for (int m = Math.max(0, n - 5); m < n; m++) due("nearer than 6", full.sign(m, 4) == column ? 1 : 0, 0);
        }
        int sum = 0;
        for (int c = 0; c <= most; c++) sum += wide[c];
        due("no COLUMN is left empty", sum, 8 * (most + 1));
        due("their sum", full.extent(0, 0), sum);
    }

    // ---- Part 4: DOTS

    private static void dotsBeyondTheLines() {
        says("DOTS stand in spaces (odd places, beyond the lines, too)");
        int[] less = {30, 18, 24};
        for (int clef = 0; clef < 3; clef++) {
            for (int step = 0; step < 70; step++) {
                Staff x = new Staff();
                x.clef(0, clef);
                x.note(step, 0, 0, 0, 0);
                x.mark(0, 2, 1);
                int place = step - less[clef];
                due("CLEF " + clef + ", STEP " + step, x.dot(0), 100 + place + (place % 2 == 0 ? 1 : 0));
            }
        }
    }

    private static void dotsShareAPlace() {
        says("NOTES of a CHORD that have DOTS, at unlike places (like ones share)");
        Staff x = new Staff();
        x.note(34, 0, 0, 0, 0);
        x.note(34, 2, 0, 0, 1);
        x.note(34, 0, 0, 0, 0);
        x.note(34, 0, 0, 1, 0);
        for (int n = 0; n < 4; n++) x.mark(n, 2, n % 3 + 1);
        for (int n = 0; n < 4; n++) due("at one place, NOTE " + n, x.dot(n), 105);
        x.mark(1, 2, 0);
        due("one without", x.dot(1), NONE);
        x.note(35, 0, 0, 0, 0);
        due("a neighbour without DOTS", x.dot(0), 105);
        x.mark(4, 2, 1);
        due("a neighbour with DOTS", x.dot(0), 103);
        due("those that share go with it", x.dot(2), 103);
        due("the neighbour", x.dot(4), 105);
        due("another CHORD", x.dot(3), 105);
        due("and the first again", x.dot(0), 103);
        x.mark(4, 2, 0);
        due("a neighbour that has none any more", x.dot(0), 105);

        // 7, 5, 3 and 5, 3, 1 have the sum 3 both, if those that share a place are counted once.
        Staff once = new Staff();
        int[] steps = {35, 35, 34, 33};
        int[] spaces = {107, 107, 105, 103};
        for (int n = 0; n < 4; n++) {
            once.note(steps[n], 0, 0, 0, n);
            once.mark(n, 2, 1);
        }
        for (int n = 0; n < 4; n++) due("one place counts once, NOTE " + n, once.dot(n), spaces[n]);
    }

    private static void dotsOfAllSubsets() {
        says("the sum of how far they are from their NOTES is the least .. of several the one with the higher space");
        for (int low : new int[] {0, 31, 63}) {
            for (int set = 1; set < 128; set++) {
                int[] steps = new int[Integer.bitCount(set)];
                int size = 0;
                for (int bit = 6; bit >= 0; bit--) {
                    if ((set >> bit & 1) == 1) steps[size++] = low + bit;
                }
                Staff x = new Staff();
                for (int i = 0; i < size; i++) {
                    x.note(steps[i], 0, 0, 0, 0);
                    x.mark(i, 2, 1);
                }
                int[] best = new int[size + 1];
                best[size] = MOST;
                tryDots(steps, new int[size], 0, 0, best);
                for (int i = 0; i < size; i++) {
                    due("STEPS " + Arrays.toString(steps) + ", " + i, x.dot(i), best[i] - 30 + 100);
                }
            }
        }
    }

    /** Tries all spaces from the highest down, so the first of like sums is the one that is due. */
    private static void tryDots(int[] steps, int[] spaces, int i, int sum, int[] best) {
        if (sum >= best[steps.length]) {
            return;
        }
        if (i == steps.length) {
            System.arraycopy(spaces, 0, best, 0, i);
            best[i] = sum;
            return;
        }
        for (int s = steps[0] + 9; s >= steps[steps.length - 1] - 9; s--) {
            if (s % 2 == 0 || i > 0 && s >= spaces[i - 1]) continue;
            spaces[i] = s;
            tryDots(steps, spaces, i + 1, sum + Math.abs(s - steps[i]), best);
        }
    }

    private static void dotsOfSixty() {
        says("from the highest to the lowest one, each has a space that is below that of the one before");
        for (int low = 0; low <= 10; low++) {
            Staff x = new Staff();
            for (int n = 0; n < 60; n++) x.note(low + n, 0, 0, 0, 0);
            for (int n = 0; n < 60; n++) x.mark(n, 2, 1);
            // Neighbours have spaces without a gap; from -30 to 29 or from -29 to 30 off they are nearest.
            int lowest = low - (low % 2 == 0 ? 29 : 30);
            for (int n = 0; n < 60; n++) due("NOTE " + n + " of " + low, x.dot(n), lowest + 2 * n - 30 + 100);
        }
        Staff wide = new Staff();
        for (int n = 0; n < 35; n++) {
            wide.note(2 * n, 0, 0, 0, 0);
            wide.mark(n, 2, 1);
        }
        for (int n = 0; n < 35; n++) due("on all lines, " + n, wide.dot(n), 2 * n - 30 + 101);
    }

    // ---- Part 5: KEYS

    private static void keyShownAtBar0() {
        says("KEYS are shown at BAR 0, if it is not 0");
        for (int key = -7; key <= 7; key++) {
            for (int cancel = 0; cancel < 3; cancel++) {
                Staff x = new Staff();
                x.rule(4, cancel);
                x.key(0, key);
                due("KEY " + key, x.keySigns(0), Math.abs(key));
                due("in BAR 1", x.keySigns(1), 0);
            }
        }
    }

    private static void keyShownWhereItChanges() {
        says("and at each BAR whose KEY is another than that of the BAR before");
        for (int bar = 1; bar < 20; bar++) {
            Staff x = new Staff();
            x.key(0, 2);
            x.key(bar, 2);
            due("told the same, BAR " + bar, x.keySigns(bar), 0);
            x.key(bar, 3);
            due("told another, BAR " + bar, x.keySigns(bar), 3);
            due("the BAR before", x.keySigns(bar - 1), bar == 1 ? 2 : 0);
            if (bar < 19) due("the BAR after", x.keySigns(bar + 1), 0);
        }
        Staff behind = new Staff();
        behind.key(19, 4);
        due("at the last BAR", behind.keySigns(19), 4);
        behind.key(18, 4);
        due("the BAR before has it now", behind.keySigns(19), 0);
        due("and shows it", behind.keySigns(18), 4);
    }

    private static void keyCancels() {
        says("CANCEL 0: none; 1: for the letters that KEY altered and this one does not; 2: so, but none if ..");
        for (int cancel = 0; cancel < 3; cancel++) {
            for (int before = -7; before <= 7; before++) {
                for (int now = -7; now <= 7; now++) {
                    Staff x = new Staff();
                    x.rule(4, cancel);
                    x.key(0, before);
                    x.key(1, now);
                    List<int[]> want = keyRow(cancel, before, now);
                    String name = "CANCEL " + cancel + ", from " + before + " to " + now;
                    due(name, x.keySigns(1), want.size());
                    for (int i = 0; i < want.size(); i++) {
                        due(name + ", letter " + i, x.keySign(1, i, 0), want.get(i)[0]);
                        due(name + ", ALTER " + i, x.keySign(1, i, 1), want.get(i)[1] + 10);
                    }
                    due(name + ", one more", x.keySign(1, want.size(), 0), UNKNOWN);
                }
            }
        }
    }

    private static List<int[]> keyRow(int cancel, int before, int now) {
        List<int[]> row = new ArrayList<>();
        if (before == now) {
            return row;
        }
        boolean sameSide = now != 0 && (before > 0) == (now > 0);
        if (cancel == 1 || cancel == 2 && !sameSide) {
            String had = (before > 0 ? SHARPS : FLATS).substring(0, Math.abs(before));
            String has = (now > 0 ? SHARPS : FLATS).substring(0, Math.abs(now));
            for (char letter : had.toCharArray()) {
                if (has.indexOf(letter) < 0) row.add(new int[] {LETTERS.indexOf(letter), 0});
            }
        }
        String own = (now > 0 ? SHARPS : FLATS).substring(0, Math.abs(now));
        for (char letter : own.toCharArray()) row.add(new int[] {LETTERS.indexOf(letter), now > 0 ? 2 : -2});
        return row;
    }

    /** The greatest place of a letter that is at most this, by looking at all STEPS. */
    private static int placeAtMost(int letter, int most, int clef) {
        int lowestLine = clef == 0 ? 30 : clef == 1 ? 18 : 24;
        int place = LEAST;
        for (int step = 0; step < 70; step++) {
            if (step % 7 == letter && step - lowestLine <= most) place = Math.max(place, step - lowestLine);
        }
        return place;
    }

    private static void keySignPlaces() {
        says("stands at the greatest place of it that is 9, 7, 8 at most (CLEF 0, 1, 2), below 0 7, 5, 6");
        int[] above = {9, 7, 8};
        int[] below = {7, 5, 6};
        for (int clef = 0; clef < 3; clef++) {
            for (int key = -7; key <= 7; key++) {
                Staff x = new Staff();
                x.clef(0, clef);
                x.key(0, key);
                for (int i = 0; i < Math.abs(key); i++) {
                    int letter = LETTERS.indexOf((key > 0 ? SHARPS : FLATS).charAt(i));
                    int most = key > 0 ? above[clef] : below[clef];
                    due("CLEF " + clef + ", KEY " + key + ", sign " + i, x.keySign(0, i, 2),
                        placeAtMost(letter, most, clef) + 100);
                }
            }
        }
    }

    private static void naturalPlaces() {
        says("a natural as that of the KEY before");
        int[] above = {9, 7, 8};
        int[] below = {7, 5, 6};
        for (int clef = 0; clef < 3; clef++) {
            for (int before = -7; before <= 7; before++) {
                for (int now : new int[] {0, before > 0 ? -1 : 1}) {
                    Staff x = new Staff();
                    x.rule(4, 1);
                    x.clef(0, clef);
                    x.key(0, before);
                    x.key(1, now);
                    int naturals = x.keySigns(1) - Math.abs(now);
                    for (int i = 0; i < naturals; i++) {
                        int most = before > 0 ? above[clef] : below[clef];
                        due("CLEF " + clef + ", from " + before + " to " + now + ", natural " + i, x.keySign(1, i, 2),
                            placeAtMost(x.keySign(1, i, 0), most, clef) + 100);
                    }
                }
            }
        }
    }

    // ---- Refused, and nothing is changed

    private static void refusedNote() {
        says("Refused, and nothing is changed: note, OUTSIDE");
        int[] least = {0, -4, 0, 0, 0};
        int[] most = {69, 4, 19, 999, 3};
        for (int i = 0; i < 5; i++) {
            for (int v : new int[] {least[i] - 1, most[i] + 1, LEAST, MOST}) {
                // All others at their least, then at their most.
                int[] low = {NOTE, 0, -4, 0, 0, 0};
                int[] high = {NOTE, 69, 4, 19, 999, 3};
                low[i + 1] = v;
                high[i + 1] = v;
                someOfAll().refuses(OUTSIDE, low);
                someOfAll().refuses(OUTSIDE, high);
            }
        }
        someOfAll().refuses(OUTSIDE, NOTE, -1, 5, 20, 1000, 4);
    }

    private static void refusedMark() {
        says("Refused, and nothing is changed: mark, UNKNOWN, OUTSIDE, WRONG");
        Staff x = someOfAll();
        for (int n : new int[] {-1, 4, 59, 60, LEAST, MOST}) {
            for (int what = 0; what < 3; what++) x.refuses(UNKNOWN, MARK, n, what, 1);
            x.refuses(UNKNOWN, MARK, n, 0, 0);
        }
        for (int what : new int[] {-1, 3, LEAST, MOST}) {
            x.refuses(OUTSIDE, MARK, 0, what, 0);
            x.refuses(OUTSIDE, MARK, 3, what, 1);
        }
        int[] most = {1, 1, 3};
        for (int what = 0; what < 3; what++) {
            for (int v : new int[] {-1, most[what] + 1, LEAST, MOST}) x.refuses(OUTSIDE, MARK, 1, what, v);
        }
        x.refuses(WRONG, MARK, 0, 0, 1);
        x.refuses(WRONG, MARK, 3, 0, 1);
        new Staff().refuses(UNKNOWN, MARK, 0, 0, 0);
    }

    private static void refusedKeyAndClef() {
        says("Refused, and nothing is changed: key and clef, OUTSIDE");
        Staff x = someOfAll();
        for (int bar : new int[] {-1, 20, LEAST, MOST}) {
            x.refuses(OUTSIDE, KEY, bar, 5);
            x.refuses(OUTSIDE, CLEF, bar, 2);
        }
        for (int v : new int[] {-8, 8, LEAST, MOST}) {
            x.refuses(OUTSIDE, KEY, 0, v);
            x.refuses(OUTSIDE, KEY, 19, v);
        }
        for (int v : new int[] {-1, 3, LEAST, MOST}) {
            x.refuses(OUTSIDE, CLEF, 0, v);
            x.refuses(OUTSIDE, CLEF, 19, v);
        }
        x.refuses(OUTSIDE, KEY, 20, 8);
        x.refuses(OUTSIDE, CLEF, -1, -1);
    }

    private static void refusedRule() {
        says("Refused, and nothing is changed: rule, OUTSIDE");
        Staff x = someOfAll();
        for (int what : new int[] {-1, 5, LEAST, MOST}) {
            x.refuses(OUTSIDE, RULE, what, 0);
            x.refuses(OUTSIDE, RULE, what, 1);
            x.refuses(OUTSIDE, RULE, what, 99);
        }
        for (int what = 0; what < 5; what++) {
            for (int v : new int[] {-1, RULE_LIMIT[what] + 1}) x.refuses(OUTSIDE, RULE, what, v);
        }
    }

    private static void refusedDrop() {
        says("Refused, and nothing is changed: drop, UNKNOWN");
        new Staff().refuses(UNKNOWN, DROP);
        Staff x = someOfAll();
        for (int left = 3; left >= 0; left--) due("drop", x.drop(), left);
        x.refuses(UNKNOWN, DROP);
        due("refused once", x.drop(), UNKNOWN);
        due("refused twice", x.drop(), UNKNOWN);
        due("NOTES", x.count(0), 0);
        due("the next number", x.note(30, 0, 0, 0, 0), 0);
    }

    private static void refusedQuestions() {
        says("Refused, and nothing is changed: the questions");
        Staff x = someOfAll();
        for (int v : new int[] {-1, 4, LEAST, MOST}) x.refuses(OUTSIDE, COUNT, v);
        for (int v : new int[] {-1, 4, 60, LEAST, MOST}) {
            x.refuses(UNKNOWN, ORDERED, v);
            x.refuses(UNKNOWN, SIGN, v, 0);
            x.refuses(UNKNOWN, DOT, v);
        }
        for (int v : new int[] {-1, 6, LEAST, MOST}) x.refuses(OUTSIDE, SIGN, 0, v);
        for (int v : new int[] {-1, 3, 20, LEAST, MOST}) x.refuses(UNKNOWN, EXTENT, v, 0);
        for (int v : new int[] {-1, 1, 1000, LEAST, MOST}) x.refuses(UNKNOWN, EXTENT, 2, v);
        for (int v : new int[] {-1, 20, LEAST, MOST}) {
            x.refuses(OUTSIDE, KEY_SIGNS, v);
            x.refuses(OUTSIDE, KEY_SIGN, v, 0, 0);
        }
        for (int v : new int[] {-1, 3, LEAST, MOST}) x.refuses(OUTSIDE, KEY_SIGN, 1, 0, v);
        for (int v : new int[] {-1, 3, 7, LEAST, MOST}) x.refuses(UNKNOWN, KEY_SIGN, 1, v, 0);
        // A question that is answered changes nothing either.
        String before = allOf(x.calls);
        List<int[]> asked = new ArrayList<>(x.calls);
        asked.add(new int[] {EXTENT, 2, 0});
        for (int n = 0; n < 4; n++) {
            asked.add(new int[] {SIGN, n, 4});
            asked.add(new int[] {DOT, n});
            asked.add(new int[] {KEY_SIGN, n, 0, 2});
            asked.add(new int[] {COUNT, n});
            asked.add(new int[] {ORDERED, n});
        }
        due("what was changed by questions", allOf(asked).equals(before) ? 0 : 1, 0);
    }

    private static void theFirstThatFits() {
        says("the first that fits");
        Staff full = new Staff();
        for (int n = 0; n < 60; n++) full.note(30, 0, 0, n, 0);
        full.refuses(OUTSIDE, NOTE, 70, 0, 0, 0, 0);
        full.refuses(OUTSIDE, NOTE, 30, 0, 0, 0, 4);
        full.refuses(ROOM, NOTE, 30, 0, 0, 0, 3);
        Staff x = someOfAll();
        x.refuses(UNKNOWN, MARK, 4, 3, 9);
        x.refuses(UNKNOWN, MARK, -1, 0, 2);
        x.refuses(OUTSIDE, MARK, 3, 0, 2);
        x.refuses(OUTSIDE, MARK, 3, 3, 1);
        due("TIED no more, where it can't be", x.mark(3, 0, 0), 0);
        x.refuses(UNKNOWN, SIGN, 4, 6);
        x.refuses(UNKNOWN, SIGN, -1, -1);
        x.refuses(OUTSIDE, KEY_SIGN, 20, 99, 0);
        x.refuses(OUTSIDE, KEY_SIGN, 0, 99, 3);
        x.refuses(UNKNOWN, KEY_SIGN, 0, 99, 2);
        new Staff().refuses(UNKNOWN, SIGN, 0, 6);
        new Staff().refuses(OUTSIDE, KEY_SIGN, 0, 0, 3);
    }

    private static void wrapAroundNumbers() {
        says("OUTSIDE, UNKNOWN: numbers that would come back into the bounds by a sum or a product");
        Staff x = new Staff();
        x.note(30, 2, 1, 0, 0);
        x.note(30, 2, 0, 0, 0);
        x.note(30, 2, 0, 999, 0);
        // By BAR * 1000 + TIME these would be CHORDS that there are.
        x.refuses(UNKNOWN, EXTENT, 0, 1000);
        x.refuses(UNKNOWN, EXTENT, 1, -1);
        x.refuses(UNKNOWN, EXTENT, 1, -1000);
        x.refuses(UNKNOWN, EXTENT, -1, 1000);
        x.refuses(UNKNOWN, EXTENT, -1, 2000);
        // By a product of an int with 3, 4, 7 or 20, or a shift, these would be 0 .. 2.
        int[] far = {1431655765, 1431655766, 1073741824, 613566757, 536870912, 65536, 256, 128, LEAST + 1, MOST - 1,
            -65536, -256, -60};
        for (int v : far) {
            x.refuses(UNKNOWN, MARK, v, 2, 1);
            x.refuses(UNKNOWN, SIGN, v, 0);
            x.refuses(UNKNOWN, DOT, v);
            x.refuses(UNKNOWN, ORDERED, v);
            x.refuses(OUTSIDE, KEY, v, 0);
            x.refuses(OUTSIDE, KEY, 0, v);
            x.refuses(OUTSIDE, CLEF, v, 0);
            x.refuses(OUTSIDE, CLEF, 0, v);
            x.refuses(OUTSIDE, RULE, v, 0);
            x.refuses(OUTSIDE, COUNT, v);
            x.refuses(OUTSIDE, KEY_SIGNS, v);
            x.refuses(UNKNOWN, EXTENT, v, 0);
        }
    }

    private static void neverThrows() {
        says("No call may ever throw or fail to end, for any arguments in any state (LANGUAGE.md, 7)");
        int[] some = {LEAST, LEAST + 1, -1001, -100, -8, -5, -4, -3, -2, -1, 0, 1, 2, 3, 4, 5, 6, 7, 8, 14, 15, 16, 19, 20,
            30, 36, 59, 60, 61, 69, 70, 71, 999, 1000, MOST - 1, MOST};
        for (int seed = 0; seed < 20; seed++) {
            Random random = new Random(seed);
            SignDots x = new SignDots();
            for (int call = 0; call < 4000; call++) {
                int[] c = new int[6];
                c[0] = seed % 2 == 0 && random.nextInt(3) == 0 ? NOTE : 1 + random.nextInt(13);
                for (int i = 1; i < 6; i++) {
                    c[i] = random.nextInt(4) == 0 ? some[random.nextInt(some.length)] : random.nextInt(seed % 5 == 0 ? 60 : 4);
                }
                int got = answer(x, c);
                due("an answer that is no number of the document's, of " + Arrays.toString(c), got < ROOM ? got : 0, 0);
            }
        }
    }

    // ---- The promises

    private static void newObject() {
        says("Promise 1: No NOTES");
        Staff used = someOfAll();
        due("NOTES of one that was used", used.count(0), 4);
        Staff x = new Staff();
        for (int what = 0; what < 4; what++) due("count(" + what + ")", x.count(what), 0);
        for (int v : new int[] {0, 1, 59}) {
            due("ordered(" + v + ")", x.ordered(v), UNKNOWN);
            due("sign(" + v + ", 0)", x.sign(v, 0), UNKNOWN);
            due("dot(" + v + ")", x.dot(v), UNKNOWN);
        }
        due("extent(0, 0)", x.extent(0, 0), UNKNOWN);
        for (int bar = 0; bar < 20; bar++) {
            due("keySigns(" + bar + ")", x.keySigns(bar), 0);
            due("keySign(" + bar + ", 0, 0)", x.keySign(bar, 0, 0), UNKNOWN);
        }
        due("two new ones are alike", allOf(new ArrayList<>()).equals(allOf(x.calls)) ? 1 : 0, 1);
    }

    private static void markWhatItWas() {
        says("Promise 3: Of a NOTE, TIED (what = 0; 1, 0), GRACE (1), DOTS (2) becomes v: what it was");
        int[] most = {1, 1, 3};
        for (int what = 0; what < 3; what++) {
            Staff x = new Staff();
            x.note(30, 2, 0, 0, 0);
            int note = x.note(30, 2, 1, 0, 0);
            int was = 0;
            int[] values = {0, most[what], most[what], 1, 0, 0, 1, most[what], 0};
            for (int v : values) {
                due("mark " + what + " becomes " + v, x.mark(note, what, v), was);
                was = v;
            }
            x.mark(note, what, most[what]);
            for (int other = 0; other < 3; other++) {
                if (other != what) due("mark " + other + " beside " + what, x.mark(note, other, 0), 0);
                due("mark " + other + " of NOTE 0", x.mark(0, other, 0), 0);
            }
            due("mark " + what + " was left", x.mark(note, what, 0), most[what]);
        }
        // The first and the last of sixty NOTES.
        Staff full = new Staff();
        for (int n = 0; n < 60; n++) full.note(30, 0, n / 3, n % 3, 0);
        due("the last, DOTS", full.mark(59, 2, 3), 0);
        due("the last, TIED", full.mark(59, 0, 1), 0);
        due("the first, DOTS", full.mark(0, 2, 2), 0);
        due("the first, TIED", full.mark(0, 0, 1), WRONG);
        due("the last but one", full.mark(58, 2, 0), 0);
        due("the last", full.mark(59, 2, 0), 3);
        due("the first", full.mark(0, 2, 0), 2);
        due("one more", full.mark(60, 2, 0), UNKNOWN);
    }

    private static void markStaysTied() {
        says("Promise 3: It stays TIED when NOTES come between");
        Staff x = new Staff();
        x.note(30, 2, 0, 0, 0);
        x.note(30, 2, 2, 0, 0);
        x.mark(1, 0, 1);
        x.note(30, 2, 1, 0, 0);
        due("one of its ALTER between: it counts", x.sign(1, 1), 1);
        x.drop();
        x.note(30, 0, 1, 0, 0);
        due("one of another ALTER between: it does not", x.sign(1, 1), 0);
        due("and has a sign", x.sign(1, 0), 1);
        x.refuses(WRONG, MARK, 1, 0, 1);
        x.drop();
        due("it has gone: it counts again", x.sign(1, 1), 1);
        due("and has none", x.sign(1, 0), 0);
        x.note(30, 0, 1, 0, 0);
        due("it stayed TIED", x.mark(1, 0, 0), 1);
        x.drop();
        due("TIED no more", x.sign(1, 1), 0);
        Staff y = new Staff();
        y.note(30, 2, 0, 0, 0);
        y.note(30, 2, 2, 0, 0);
        y.mark(1, 0, 1);
        y.note(30, 0, 1, 0, 1);
        y.note(31, 0, 1, 0, 0);
        y.note(30, 0, 2, 0, 0);
        y.note(30, 0, 2, 1, 0);
        due("others, and some that are not between", y.sign(1, 1), 1);
    }

    private static void markCountsAsLongAsItCan() {
        says("Promise 3: it counts as TIED only as long as it can be");
        Staff x = new Staff();
        x.note(30, 2, 1, 0, 0);
        x.note(30, 2, 0, 0, 0);
        due("TIED to one that was told later", x.mark(0, 0, 1), 0);
        due("it counts", x.sign(0, 1), 1);
        x.drop();
        due("that one has gone", x.sign(0, 1), 0);
        due("it has a sign", x.sign(0, 0), 1);
        x.refuses(WRONG, MARK, 0, 0, 1);
        x.note(30, -2, 0, 0, 0);
        due("one of another ALTER", x.sign(0, 1), 0);
        x.drop();
        x.note(30, 2, 0, 500, 0);
        due("one of its ALTER", x.sign(0, 1), 1);
        x.drop();
        due("it was TIED all the time", x.mark(0, 0, 0), 1);
        x.note(30, 2, 0, 0, 0);
        due("now it is not", x.sign(0, 1), 0);
    }

    private static void keyFromABarOn() {
        says("Promise 4: The KEY from a BAR on: what it was there");
        for (int key = -7; key <= 7; key++) {
            Staff x = new Staff();
            due("at first", x.key(0, key), 0);
            due("the first BAR", x.key(0, key), key);
            due("the last BAR", x.key(19, -key), key);
            due("the last BAR again", x.key(19, 0), -key);
            due("the last BAR, told 0", x.key(19, 7), 0);
            due("the last but one", x.key(18, 0), key);
        }
        Staff x = new Staff();
        x.key(5, 4);
        x.key(5, 0);
        x.key(0, 3);
        due("a BAR that was told 0 keeps it", x.key(5, 1), 0);
        due("the one before it", x.key(4, 1), 3);
    }

    private static void clefFromABarOn() {
        says("Promise 5: The CLEF from a BAR on: what it was there");
        for (int kind = 0; kind < 3; kind++) {
            Staff x = new Staff();
            due("at first", x.clef(0, kind), 0);
            due("the last BAR", x.clef(19, 2 - kind), kind);
            due("the last BAR again", x.clef(19, 0), 2 - kind);
            due("the last BAR, told 0", x.clef(19, 1), 0);
            due("the last but one", x.clef(18, 1), kind);
        }
        Staff x = new Staff();
        x.clef(5, 2);
        x.clef(5, 0);
        x.clef(0, 1);
        x.note(30, 0, 4, 0, 0);
        x.note(30, 0, 5, 0, 0);
        due("the BAR before", x.sign(0, 5), 112);
        due("a BAR that was told 0 keeps it", x.sign(1, 5), 100);
        x.mark(0, 2, 1);
        due("its dot", x.dot(0), 113);
        x.clef(4, 2);
        due("its dot with another CLEF", x.dot(0), 107);
    }

    private static void dropTheLast() {
        says("Promise 7: The last NOTE goes: how many there are");
        Staff x = new Staff();
        for (int n = 0; n < 60; n++) x.note(n, 1, 19 - n / 3, n % 3, n % 4);
        for (int left = 59; left >= 0; left--) {
            due("drop", x.drop(), left);
            due("NOTES", x.count(0), left);
            due("the one that went", x.sign(left, 0), UNKNOWN);
            if (left > 0) due("the last that is left", x.sign(left - 1, 5), left - 1 - 30 + 100);
        }
        due("none is there", x.drop(), UNKNOWN);
        // The last one is that with the greatest number, not that which stands last.
        Staff y = new Staff();
        y.note(40, 0, 19, 999, 0);
        y.note(20, 0, 0, 0, 0);
        y.drop();
        due("the first told is left", y.sign(0, 5), 110);
    }

    private static void dropAndTellAgain() {
        says("Promise 7: The last NOTE goes (with its marks)");
        Staff x = new Staff();
        x.note(30, 2, 0, 0, 0);
        x.note(30, 2, 1, 0, 0);
        x.mark(1, 0, 1);
        x.mark(1, 1, 1);
        x.mark(1, 2, 3);
        x.drop();
        x.note(30, 2, 1, 0, 0);
        due("it is not TIED", x.sign(1, 1), 0);
        due("its sign is not that of a GRACE", x.sign(1, 3), 10);
        due("it has no DOTS", x.dot(1), NONE);
        for (int what = 0; what < 3; what++) due("mark " + what, x.mark(1, what, 0), 0);
    }

    private static void countOfEmptyAndFull() {
        says("Promise 8: How many: 0 NOTES, 1 signs NEEDED, 2 COURTESIES, 3 CHORDS");
        Staff needed = new Staff();
        for (int n = 0; n < 60; n++) needed.note(n, 1, n / 3, n % 3 * 400, 0);
        int[] allNeeded = {60, 60, 0, 60};
        Staff courtesies = new Staff();
        courtesies.rule(2, 8);
        courtesies.key(1, 7);
        for (int n = 0; n < 60; n++) courtesies.note(n, 2, 1, 0, 0);
        int[] allCourtesies = {60, 0, 60, 1};
        Staff none = new Staff();
        for (int n = 0; n < 60; n++) none.note(n, 0, 0, 0, 0);
        int[] noSigns = {60, 0, 0, 1};
        for (int what = 0; what < 4; what++) {
            due("all NEEDED, count(" + what + ")", needed.count(what), allNeeded[what]);
            due("all COURTESIES, count(" + what + ")", courtesies.count(what), allCourtesies[what]);
            due("no signs, count(" + what + ")", none.count(what), noSigns[what]);
            due("empty, count(" + what + ")", new Staff().count(what), 0);
        }
        for (int what : new int[] {-1, 4}) {
            due("full, count(" + what + ")", none.count(what), OUTSIDE);
            due("empty, count(" + what + ")", new Staff().count(what), OUTSIDE);
        }
    }

    private static void orderedOfEmptyAndFull() {
        says("Promise 9: The k-th NOTE in ORDER. UNKNOWN");
        due("empty", new Staff().ordered(0), UNKNOWN);
        Staff x = new Staff();
        for (int n = 0; n < 60; n++) x.note(30, 0, 19 - n / 3, 999 - n % 3, 0);
        for (int k = 0; k < 60; k++) due("told backward, ordered(" + k + ")", x.ordered(k), 59 - k);
        for (int k : new int[] {-1, 60, 61, LEAST, MOST}) due("full, ordered(" + k + ")", x.ordered(k), UNKNOWN);
        x.drop();
        due("the first after a drop", x.ordered(0), 58);
        due("the last after a drop", x.ordered(58), 0);
        due("one more", x.ordered(59), UNKNOWN);
    }

    private static void signWithout() {
        says("Promise 10: 0 none .. 3 its sign's WIDTH (0 without), 4 its sign's COLUMN (NONE without)");
        Staff x = new Staff();
        x.note(30, 0, 0, 0, 0);
        x.note(30, 2, 0, 1, 0);
        x.note(30, 2, 0, 2, 0);
        x.mark(2, 0, 1);
        x.mark(2, 1, 1);
        int[][] want = {{0, 0, 0, 0, NONE, 100}, {1, 0, 0, 10, 0, 100}, {0, 1, 0, 0, NONE, 100}};
        for (int n = 0; n < 3; n++) {
            for (int what = 0; what < 6; what++) due("sign(" + n + ", " + what + ")", x.sign(n, what), want[n][what]);
            due("sign(" + n + ", -1)", x.sign(n, -1), OUTSIDE);
            due("sign(" + n + ", 6)", x.sign(n, 6), OUTSIDE);
        }
        due("one more", x.sign(3, 0), UNKNOWN);
        // Without a sign in a CHORD that has some.
        x.note(34, 0, 0, 1, 0);
        due("its COLUMN", x.sign(3, 4), NONE);
        due("its WIDTH", x.sign(3, 3), 0);
        due("that of the other", x.sign(1, 4), 0);
    }

    private static void extentOfNoChord() {
        says("Promise 11: The sum of WIDTHS of a CHORD's COLUMNS. UNKNOWN");
        Staff x = new Staff();
        due("empty", x.extent(0, 0), UNKNOWN);
        x.note(30, 2, 0, 0, 0);
        x.note(30, 2, 19, 999, 0);
        x.note(30, 2, 19, 0, 0);
        due("the first CHORD", x.extent(0, 0), 10);
        due("the last CHORD, without signs", x.extent(19, 999), 0);
        due("another one of its BAR", x.extent(19, 0), 10);
        due("no CHORD at this TIME", x.extent(0, 999), UNKNOWN);
        due("no CHORD in this BAR", x.extent(18, 0), UNKNOWN);
        due("after the last TIME", x.extent(19, 1000), UNKNOWN);
        due("after the last BAR", x.extent(20, 0), UNKNOWN);
        due("before the first", x.extent(-1, 0), UNKNOWN);
        x.drop();
        due("a CHORD that has gone", x.extent(19, 0), UNKNOWN);
        due("and another one now needs a sign", x.extent(19, 999), 10);
    }

    private static void dotNone() {
        says("Promise 12: The space of a NOTE's DOTS, and 100; NONE: it has none. UNKNOWN");
        Staff x = new Staff();
        due("empty", x.dot(0), UNKNOWN);
        x.note(31, 0, 0, 0, 0);
        due("none", x.dot(0), NONE);
        x.mark(0, 2, 1);
        due("one", x.dot(0), 101);
        x.mark(0, 2, 0);
        due("none again", x.dot(0), NONE);
        due("one more", x.dot(1), UNKNOWN);
        due("one before", x.dot(-1), UNKNOWN);
        x.mark(0, 2, 3);
        x.drop();
        due("it has gone", x.dot(0), UNKNOWN);
    }

    private static void keySignsOfEachBar() {
        says("Promise 13: How many signs of KEYS are shown at a BAR. OUTSIDE");
        Staff x = new Staff();
        x.rule(4, 1);
        for (int bar = 0; bar < 20; bar++) x.key(bar, bar % 2 == 0 ? 7 : 0);
        for (int bar = 0; bar < 20; bar++) due("BAR " + bar, x.keySigns(bar), 7);
        x.rule(4, 0);
        for (int bar = 0; bar < 20; bar++) due("without naturals, BAR " + bar, x.keySigns(bar), bar % 2 == 0 ? 7 : 0);
        for (int bar : new int[] {-1, 20, LEAST, MOST}) due("BAR " + bar, x.keySigns(bar), OUTSIDE);
    }

    private static void keySignOfEachBar() {
        says("Promise 14: 0 its letter, 1 its ALTER and 10 (10 of a natural), 2 where it stands, and 100");
        Staff x = new Staff();
        x.rule(4, 2);
        x.key(18, 7);
        x.key(19, 0);
        int[] places = {108, 105, 109, 106, 103, 107, 104};
        for (int i = 0; i < 7; i++) {
            for (int bar = 18; bar < 20; bar++) {
                due("letter " + i, x.keySign(bar, i, 0), LETTERS.indexOf(SHARPS.charAt(i)));
                due("ALTER " + i, x.keySign(bar, i, 1), bar == 18 ? 12 : 10);
                due("place " + i, x.keySign(bar, i, 2), places[i]);
            }
        }
        x.key(19, -7);
        int[] flatPlaces = {104, 107, 103, 106, 102, 105, 101};
        for (int i = 0; i < 7; i++) {
            due("a flat's ALTER", x.keySign(19, i, 1), 8);
            due("a flat's place", x.keySign(19, i, 2), flatPlaces[i]);
        }
        x.clef(19, 1);
        due("the lowest of all", x.keySign(19, 6, 2), 99);
        due("the place in the BAR before", x.keySign(18, 0, 2), 108);
        for (int i : new int[] {-1, 7, 8, LEAST, MOST}) due("sign " + i, x.keySign(19, i, 0), UNKNOWN);
        due("where none is shown", x.keySign(17, 0, 0), UNKNOWN);
        for (int what : new int[] {-1, 3}) due("what " + what, x.keySign(19, 0, what), OUTSIDE);
        for (int bar : new int[] {-1, 20}) due("BAR " + bar, x.keySign(bar, 0, 0), OUTSIDE);
    }
}
