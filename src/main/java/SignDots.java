import java.util.Arrays;

/**
 * Signs before the notes of one staff, the columns in which a chord's signs stand, the spaces of dots,
 * and the signs of keys. The words in capitals are those of the document.
 */
public final class SignDots {
    public static final int NONE = -1, UNKNOWN = -2, OUTSIDE = -3, WRONG = -4, ROOM = -5;

    private static final int MOST_NOTES = 60;
    private static final int STEPS = 70;
    private static final int LETTERS = 7;
    private static final int BARS = 20;
    private static final int TIMES = 1000;
    private static final int PARTS = 4;
    private static final int MOST_ALTER = 4;
    private static final int MOST_KEY = 7;

    private static final int TIED = 0;
    private static final int GRACE = 1;
    private static final int DOTS = 2;
    private static final int MARKS = 3;
    private static final int[] MARK_LIMIT = {1, 1, 3};

    private static final int OCTAVES = 0;
    private static final int VOICES = 1;
    private static final int COURTESY = 2;
    private static final int OLD = 3;
    private static final int CANCEL = 4;
    private static final int RULES = 5;
    private static final int[] RULE_LIMIT = {1, 1, 15, 1, 2};

    private static final int NEEDED = 1;
    private static final int IN_BRACKETS = 2;

    /** Unlike every ALTER, so that a comparison with one tells MIXED from it. */
    private static final int MIXED = 99;

    /** Places may be below 0, so answers carry this besides. */
    private static final int PLACE_SHIFT = 100;
    private static final int ALTER_SHIFT = 10;

    /** The STEP of the lowest line, by CLEF. */
    private static final int[] LOWEST_LINE = {30, 18, 24};

    private final Notes notes = new Notes();
    private final ByBar keys = new ByBar();
    private final ByBar clefs = new ByBar();
    private final int[] rules = new int[RULES];
    private final Signs signs = new Signs(notes, keys, rules);
    private final Columns columns = new Columns(notes, signs);
    private final DotSpaces dotSpaces = new DotSpaces(notes);
    private final KeyRow keyRow = new KeyRow();

    public SignDots() {
    }

    public int note(int step, int alter, int bar, int time, int voice) {
        if (!within(step, 0, STEPS - 1) || !within(alter, -MOST_ALTER, MOST_ALTER) || !isBar(bar)
                || !within(time, 0, TIMES - 1) || !within(voice, 0, PARTS - 1)) {
            return OUTSIDE;
        }
        if (notes.size >= MOST_NOTES) {
            return ROOM;
        }
        forgetAnswers();
        return notes.add(step, alter, bar, time, voice);
    }

    public int mark(int note, int what, int v) {
        if (!notes.has(note)) {
            return UNKNOWN;
        }
        if (!within(what, 0, MARKS - 1) || !within(v, 0, MARK_LIMIT[what])) {
            return OUTSIDE;
        }
        if (what == TIED && v == 1 && notes.possibleTie(note) == NONE) {
            return WRONG;
        }
        forgetAnswers();
        return notes.setMark(note, what, v);
    }

    public int key(int bar, int fifths) {
        if (!isBar(bar) || !within(fifths, -MOST_KEY, MOST_KEY)) {
            return OUTSIDE;
        }
        forgetAnswers();
        return keys.tell(bar, fifths);
    }

    public int clef(int bar, int kind) {
        if (!isBar(bar) || !within(kind, 0, LOWEST_LINE.length - 1)) {
            return OUTSIDE;
        }
        return clefs.tell(bar, kind);
    }

    public int rule(int what, int v) {
        if (!within(what, 0, RULES - 1) || !within(v, 0, RULE_LIMIT[what])) {
            return OUTSIDE;
        }
        int was = rules[what];
        rules[what] = v;
        forgetAnswers();
        return was;
    }

    public int drop() {
        if (notes.size == 0) {
            return UNKNOWN;
        }
        forgetAnswers();
        notes.removeLast();
        return notes.size;
    }

    public int count(int what) {
        switch (what) {
            case 0:
                return notes.size;
            case 1:
                signs.find();
                return signs.howMany(NEEDED);
            case 2:
                signs.find();
                return signs.howMany(IN_BRACKETS);
            case 3:
                return notes.howManyChords();
            default:
                return OUTSIDE;
        }
    }

    public int ordered(int k) {
        return notes.has(k) ? notes.order[k] : UNKNOWN;
    }

    public int sign(int note, int what) {
        if (!notes.has(note)) {
            return UNKNOWN;
        }
        signs.find();
        switch (what) {
            case 0:
                return signs.kind[note];
            case 1:
                return signs.tie[note] == NONE ? 0 : 1;
            case 2:
                return signs.natural[note];
            case 3:
                return signs.widthOf(note);
            case 4:
                columns.layOut(notes.chordStart(note));
                return columns.columnOf(note);
            case 5:
                return placeOf(note) + PLACE_SHIFT;
            default:
                return OUTSIDE;
        }
    }

    public int extent(int bar, int time) {
        int start = notes.chordAt(bar, time);
        if (start == NONE) {
            return UNKNOWN;
        }
        signs.find();
        columns.layOut(start);
        return columns.sumOfWidths();
    }

    public int dot(int note) {
        if (!notes.has(note)) {
            return UNKNOWN;
        }
        if (notes.markOf(note, DOTS) == 0) {
            return NONE;
        }
        dotSpaces.layOut(notes.chordStart(note));
        return placeOf(note) + dotSpaces.distanceFrom(notes.step[note]) + PLACE_SHIFT;
    }

    public int keySigns(int bar) {
        if (!isBar(bar)) {
            return OUTSIDE;
        }
        layOutKey(bar);
        return keyRow.size;
    }

    public int keySign(int bar, int i, int what) {
        if (!isBar(bar) || !within(what, 0, 2)) {
            return OUTSIDE;
        }
        layOutKey(bar);
        if (!within(i, 0, keyRow.size - 1)) {
            return UNKNOWN;
        }
        if (what == 0) {
            return keyRow.letter[i];
        }
        return what == 1 ? keyRow.alter[i] + ALTER_SHIFT : keyRow.place[i] + PLACE_SHIFT;
    }

    /** What was found is kept until a change, as many questions follow one another. */
    private void forgetAnswers() {
        signs.forget();
        columns.forget();
        dotSpaces.forget();
    }

    private void layOutKey(int bar) {
        // There is no KEY ahead of BAR 0: it counts as 0, which has no signs to end.
        int before = bar == 0 ? 0 : keys.at(bar - 1);
        keyRow.layOut(before, keys.at(bar), clefs.at(bar), rules[CANCEL]);
    }

    private int placeOf(int note) {
        return notes.step[note] - LOWEST_LINE[clefs.at(notes.bar[note])];
    }

    private static boolean isBar(int bar) {
        return within(bar, 0, BARS - 1);
    }

    private static boolean within(int number, int least, int most) {
        return number >= least && number <= most;
    }

    /** The NOTES, and their numbers in ORDER. */
    private static final class Notes {
        final int[] step = new int[MOST_NOTES];
        final int[] alter = new int[MOST_NOTES];
        final int[] bar = new int[MOST_NOTES];
        final int[] time = new int[MOST_NOTES];
        final int[] voice = new int[MOST_NOTES];
        final int[] order = new int[MOST_NOTES];
        private final int[] marks = new int[MOST_NOTES * MARKS];
        int size;

        boolean has(int note) {
            return note >= 0 && note < size;
        }

        /** The caller has looked at the bounds, and whether there is room. */
        int add(int newStep, int newAlter, int newBar, int newTime, int newVoice) {
            int note = size;
            step[note] = newStep;
            alter[note] = newAlter;
            bar[note] = newBar;
            time[note] = newTime;
            voice[note] = newVoice;
            for (int what = 0; what < MARKS; what++) {
                marks[note * MARKS + what] = 0;
            }
            int at = size;
            // The new number is the greatest, so it goes behind all of its CHORD.
            for (; at > 0 && isBefore(note, order[at - 1]); at--) {
                order[at] = order[at - 1];
            }
            order[at] = note;
            size++;
            return note;
        }

        void removeLast() {
            for (int at = positionOf(size - 1); at < size - 1; at++) {
                order[at] = order[at + 1];
            }
            size--;
        }

        int markOf(int note, int what) {
            return marks[note * MARKS + what];
        }

        int setMark(int note, int what, int v) {
            int was = markOf(note, what);
            marks[note * MARKS + what] = v;
            return was;
        }

        /** The NOTE that this one would be TIED to; NONE, if it can't be. */
        int possibleTie(int note) {
            for (int at = positionOf(note) - 1; at >= 0; at--) {
                int other = order[at];
                if (voice[other] == voice[note] && step[other] == step[note] && isBefore(other, note)) {
                    return alter[other] == alter[note] ? other : NONE;
                }
            }
            return NONE;
        }

        /** The NOTE that this one counts as TIED to; NONE, if it does not. */
        int tieOf(int note) {
            return markOf(note, TIED) == 1 ? possibleTie(note) : NONE;
        }

        /** Whether a NOTE has a lesser BAR or TIME than another. */
        private boolean isBefore(int note, int other) {
            if (bar[note] != bar[other]) {
                return bar[note] < bar[other];
            }
            return time[note] < time[other];
        }

        private boolean shareChord(int note, int other) {
            return bar[note] == bar[other] && time[note] == time[other];
        }

        private int positionOf(int note) {
            for (int at = 0; at < size; at++) {
                if (order[at] == note) {
                    return at;
                }
            }
            return size;
        }

        boolean beginsChord(int at) {
            return at == 0 || !shareChord(order[at - 1], order[at]);
        }

        /** Where the CHORD that starts at a position has ended. */
        int chordEnd(int start) {
            for (int at = start; at < size; at++) {
                if (!shareChord(order[start], order[at])) {
                    return at;
                }
            }
            return size;
        }

        int chordStart(int note) {
            return chordAt(bar[note], time[note]);
        }

        int chordAt(int atBar, int atTime) {
            for (int at = 0; at < size; at++) {
                if (bar[order[at]] == atBar && time[order[at]] == atTime) {
                    return at;
                }
            }
            return NONE;
        }

        int howManyChords() {
            int chords = 0;
            for (int at = 0; at < size; at++) {
                if (beginsChord(at)) {
                    chords++;
                }
            }
            return chords;
        }
    }

    /** A number that holds from the BAR for which it was told up to the next such BAR. */
    private static final class ByBar {
        private final int[] value = new int[BARS];
        private final boolean[] told = new boolean[BARS];

        int at(int bar) {
            return value[bar];
        }

        int tell(int bar, int v) {
            int was = value[bar];
            told[bar] = true;
            value[bar] = v;
            for (int later = bar + 1; later < BARS && !told[later]; later++) {
                value[later] = v;
            }
            return was;
        }
    }

    /** The STATES of SEATS. A SEAT is entered in a BAR by its first NOTE there, and has the KEY's ALTER until then. */
    private static final class Seats {
        private static final int SEATS = STEPS * PARTS;
        private final int[] enteredBar = new int[SEATS];
        private final int[] state = new int[SEATS];
        private final int[] earlierBar = new int[SEATS];
        private final int[] earlierState = new int[SEATS];
        private final int[] courtesyBar = new int[SEATS];

        void clear() {
            Arrays.fill(enteredBar, NONE);
            Arrays.fill(earlierBar, NONE);
            Arrays.fill(courtesyBar, NONE);
        }

        boolean isEntered(int seat, int bar) {
            return enteredBar[seat] == bar;
        }

        int stateIn(int seat, int bar, int byKey) {
            return isEntered(seat, bar) ? state[seat] : byKey;
        }

        /** The STATE at the end of the BAR before this one, whose KEY gives byKey. */
        int stateBefore(int seat, int bar, int byKey) {
            if (isEntered(seat, bar - 1)) {
                return state[seat];
            }
            boolean left = isEntered(seat, bar) && earlierBar[seat] == bar - 1;
            return left ? earlierState[seat] : byKey;
        }

        void enter(int seat, int bar, int byKey) {
            if (isEntered(seat, bar)) {
                return;
            }
            earlierBar[seat] = enteredBar[seat];
            earlierState[seat] = state[seat];
            enteredBar[seat] = bar;
            state[seat] = byKey;
        }

        void setState(int seat, int newState) {
            state[seat] = newState;
        }

        boolean hasCourtesy(int seat, int bar) {
            return courtesyBar[seat] == bar;
        }

        void setCourtesy(int seat, int bar) {
            courtesyBar[seat] = bar;
        }
    }

    /** Which NOTES have signs, found anew after each change. */
    private static final class Signs {
        private static final int BIT_LAST_BAR = 1;
        private static final int BIT_OCTAVE = 2;
        private static final int BIT_TIE = 4;
        private static final int BIT_KEY = 8;
        /** By ALTER -4 .. 4. */
        private static final int[] WIDTHS = {16, 12, 9, 9, 7, 8, 10, 14, 10};
        private static final int BRACKETS_WIDTH = 8;
        private static final int NATURAL_WIDTH = 7;

        private final Notes notes;
        private final ByBar keys;
        private final int[] rules;
        private final Seats seats = new Seats();
        private final int[] seat = new int[MOST_NOTES];
        final int[] tie = new int[MOST_NOTES];
        final int[] kind = new int[MOST_NOTES];
        final int[] natural = new int[MOST_NOTES];
        private int from;
        private int to;
        private boolean found;

        Signs(Notes theNotes, ByBar theKeys, int[] theRules) {
            notes = theNotes;
            keys = theKeys;
            rules = theRules;
        }

        void forget() {
            found = false;
        }

        void find() {
            if (found) {
                return;
            }
            found = true;
            seats.clear();
            for (int note = 0; note < notes.size; note++) {
                seat[note] = seatFor(notes.step[note], notes.voice[note]);
                tie[note] = notes.tieOf(note);
            }
            for (int at = 0; at < notes.size; at++) {
                if (notes.beginsChord(at)) {
                    from = at;
                    to = notes.chordEnd(at);
                    decideChord();
                    changeStates();
                }
            }
        }

        int howMany(int ofKind) {
            int number = 0;
            for (int note = 0; note < notes.size; note++) {
                if (kind[note] == ofKind) {
                    number++;
                }
            }
            return number;
        }

        int widthOf(int note) {
            if (kind[note] == 0) {
                return 0;
            }
            int width = WIDTHS[notes.alter[note] + MOST_ALTER];
            if (kind[note] == IN_BRACKETS) {
                width += BRACKETS_WIDTH;
            }
            if (natural[note] == 1) {
                width += NATURAL_WIDTH;
            }
            return notes.markOf(note, GRACE) == 1 ? (2 * width + 2) / 3 : width;
        }

        private int seatFor(int step, int voice) {
            int height = rules[OCTAVES] == 0 ? step : step % LETTERS;
            return height * PARTS + (rules[VOICES] == 0 ? 0 : voice);
        }

        /** All of a CHORD is told by the STATES ahead of it, so they are changed only afterwards. */
        private void decideChord() {
            for (int at = from; at < to; at++) {
                int note = notes.order[at];
                int ahead = stateAhead(note);
                kind[note] = 0;
                natural[note] = 0;
                if (tie[note] != NONE) {
                    continue;
                }
                if (needsSign(note, ahead)) {
                    kind[note] = NEEDED;
                    natural[note] = wantsNatural(notes.alter[note], ahead) ? 1 : 0;
                } else if (isCourtesy(note)) {
                    kind[note] = IN_BRACKETS;
                    seats.setCourtesy(seat[note], notes.bar[note]);
                }
            }
        }

        private void changeStates() {
            for (int at = from; at < to; at++) {
                int note = notes.order[at];
                int bar = notes.bar[note];
                seats.enter(seat[note], bar, alterByKey(bar, notes.step[note]));
                if (hasUnlike(note)) {
                    seats.setState(seat[note], MIXED);
                } else if (tie[note] == NONE) {
                    seats.setState(seat[note], notes.alter[note]);
                }
            }
        }

        private int stateAhead(int note) {
            int bar = notes.bar[note];
            return seats.stateIn(seat[note], bar, alterByKey(bar, notes.step[note]));
        }

        private int alterByKey(int bar, int step) {
            return KeyRow.alterOf(keys.at(bar), step % LETTERS);
        }

        private boolean needsSign(int note, int ahead) {
            if (hasUnlike(note)) {
                return isFirst(note, true);
            }
            return ahead != notes.alter[note] && isFirst(note, false);
        }

        private boolean wantsNatural(int alter, int ahead) {
            return rules[OLD] == 1 && (alter == 2 || alter == -2) && ahead == 2 * alter;
        }

        /** Whether NOTES of its SEAT in the CHORD have another ALTER. */
        private boolean hasUnlike(int note) {
            for (int at = from; at < to; at++) {
                int other = notes.order[at];
                if (seat[other] == seat[note] && notes.alter[other] != notes.alter[note]) {
                    return true;
                }
            }
            return false;
        }

        /** Whether a NOTE is the first of its SEAT and STEP (and ALTER) in the CHORD, TIED ones left out. */
        private boolean isFirst(int note, boolean ofAlter) {
            for (int at = from; at < to && notes.order[at] != note; at++) {
                int other = notes.order[at];
                if (tie[other] == NONE && seat[other] == seat[note] && notes.step[other] == notes.step[note]
                        && (!ofAlter || notes.alter[other] == notes.alter[note])) {
                    return false;
                }
            }
            return true;
        }

        private boolean isCourtesy(int note) {
            if (seats.hasCourtesy(seat[note], notes.bar[note]) || !isFirst(note, false)) {
                return false;
            }
            int bits = rules[COURTESY];
            return (bits & BIT_LAST_BAR) != 0 && wasOtherInLastBar(note)
                    || (bits & BIT_OCTAVE) != 0 && isOtherInOctave(note)
                    || (bits & BIT_TIE) != 0 && wasOtherByTie(note)
                    || (bits & BIT_KEY) != 0 && wasOtherByKey(note);
        }

        private boolean wasOtherInLastBar(int note) {
            int bar = notes.bar[note];
            if (bar == 0) {
                return false;
            }
            int byKey = alterByKey(bar - 1, notes.step[note]);
            return seats.stateBefore(seat[note], bar, byKey) != notes.alter[note];
        }

        private boolean isOtherInOctave(int note) {
            if (rules[OCTAVES] != 0) {
                return false;
            }
            int bar = notes.bar[note];
            for (int step = notes.step[note] % LETTERS; step < STEPS; step += LETTERS) {
                int other = seatFor(step, notes.voice[note]);
                // Only SEATS that have been entered in the BAR are looked at, so no KEY's ALTER is asked for.
                if (other != seat[note] && seats.isEntered(other, bar)
                        && seats.stateIn(other, bar, 0) != notes.alter[note]) {
                    return true;
                }
            }
            return false;
        }

        private boolean wasOtherByTie(int note) {
            int bar = notes.bar[note];
            for (int at = 0; at < from; at++) {
                int other = notes.order[at];
                if (notes.bar[other] == bar && seat[other] == seat[note] && tie[other] != NONE
                        && notes.bar[tie[other]] < bar && notes.alter[other] != notes.alter[note]) {
                    return true;
                }
            }
            return false;
        }

        private boolean wasOtherByKey(int note) {
            int bar = notes.bar[note];
            int step = notes.step[note];
            return bar > 0 && alterByKey(bar - 1, step) != alterByKey(bar, step);
        }
    }

    /** The COLUMNS of one CHORD's signs; its rows are by places in ZIGZAG. */
    private static final class Columns {
        /** With more signs than these the COLUMNS are not searched for the least width. */
        private static final int FEW = 6;
        private final Notes notes;
        private final Signs signs;
        private final int[] fromTop = new int[MOST_NOTES];
        private final int[] zigzag = new int[MOST_NOTES];
        private final int[] column = new int[MOST_NOTES];
        private final int[] trial = new int[MOST_NOTES];
        private final int[] columnWidth = new int[MOST_NOTES];
        private int size;
        private int leastSum;
        private int laidOut = NONE;

        Columns(Notes theNotes, Signs theSigns) {
            notes = theNotes;
            signs = theSigns;
        }

        void forget() {
            laidOut = NONE;
        }

        void layOut(int start) {
            if (start == laidOut) {
                return;
            }
            laidOut = start;
            collectFromTop(start, notes.chordEnd(start));
            bringToZigzag();
            Arrays.fill(columnWidth, 0);
            if (size <= FEW) {
                leastSum = Integer.MAX_VALUE;
                search(0, 0, 0);
            } else {
                takeInTurn();
            }
        }

        int columnOf(int note) {
            for (int i = 0; i < size; i++) {
                if (zigzag[i] == note) {
                    return column[i];
                }
            }
            return NONE;
        }

        int sumOfWidths() {
            return leastSum;
        }

        /** ORDER has the lesser numbers first, so a later NOTE passes those of lesser STEPS alone. */
        private void collectFromTop(int start, int end) {
            size = 0;
            for (int at = start; at < end; at++) {
                int note = notes.order[at];
                if (signs.kind[note] == 0) {
                    continue;
                }
                int i = size;
                for (; i > 0 && notes.step[fromTop[i - 1]] < notes.step[note]; i--) {
                    fromTop[i] = fromTop[i - 1];
                }
                fromTop[i] = note;
                size++;
            }
        }

        private void bringToZigzag() {
            for (int i = 0; i < size; i++) {
                zigzag[i] = i % 2 == 0 ? fromTop[i / 2] : fromTop[size - 1 - i / 2];
            }
        }

        /**
         * The sum does not depend on how the COLUMNS are numbered, and numbering them as they are first taken is
         * the least; so a sign tries only those taken and the next one. Of like sums the first found is the least.
         */
        private void search(int depth, int taken, int sum) {
            if (sum >= leastSum) {
                return;
            }
            if (depth >= size) {
                leastSum = sum;
                System.arraycopy(trial, 0, column, 0, size);
                return;
            }
            for (int c = 0; c <= taken && c < FEW; c++) {
                if (!canStand(depth, c, trial)) {
                    continue;
                }
                int was = columnWidth[c];
                int wide = Math.max(was, signs.widthOf(zigzag[depth]));
                trial[depth] = c;
                columnWidth[c] = wide;
                search(depth + 1, Math.max(taken, c + 1), sum - was + wide);
                columnWidth[c] = was;
            }
        }

        private void takeInTurn() {
            leastSum = 0;
            for (int i = 0; i < size; i++) {
                int c = 0;
                // The i signs ahead have taken COLUMNS below i alone, so COLUMN i is free.
                while (c < i && !canStand(i, c, column)) {
                    c++;
                }
                int wide = Math.max(columnWidth[c], signs.widthOf(zigzag[i]));
                leastSum += wide - columnWidth[c];
                column[i] = c;
                columnWidth[c] = wide;
            }
        }

        private boolean canStand(int index, int c, int[] columnsOfEarlier) {
            for (int i = 0; i < index; i++) {
                if (columnsOfEarlier[i] == c && !canShare(zigzag[i], zigzag[index])) {
                    return false;
                }
            }
            return true;
        }

        private boolean canShare(int note, int other) {
            int distance = notes.step[note] - notes.step[other];
            return distance > 0 ? distance >= down(note) + up(other) : -distance >= down(other) + up(note);
        }

        private int up(int note) {
            int alter = notes.alter[note];
            return alter < 0 ? 4 : levelReach(note, alter);
        }

        private int down(int note) {
            int alter = notes.alter[note];
            return alter < 0 ? 2 : levelReach(note, alter);
        }

        /** How far a sign of 0 or above reaches, upward as downward. */
        private int levelReach(int note, int alter) {
            if (alter < MOST_ALTER) {
                return 3;
            }
            return signs.kind[note] == IN_BRACKETS ? 2 : 1;
        }
    }

    /** The spaces of one CHORD's DOTS. Lines have even STEPS with each CLEF, so spaces are told by odd STEPS here. */
    private static final class DotSpaces {
        /** DOTS of n NOTES stand no farther than n from the highest and the lowest NOTE: less than this many spaces. */
        private static final int MOST_SPACES = (STEPS + 2 * MOST_NOTES) / 2 + 1;
        private static final int TOO_DEAR = 1000000;
        private final Notes notes;
        private final int[] dottedAt = new int[STEPS];
        private final int[] dotted = new int[MOST_NOTES];
        private final int[] space = new int[MOST_NOTES];
        /** By NOTE and space: the least sum from this NOTE down, if it has this space. */
        private final int[] cost = new int[MOST_NOTES * MOST_SPACES];
        private int size;
        private int lowest;
        private int spaces;
        private int laidOut = NONE;

        DotSpaces(Notes theNotes) {
            notes = theNotes;
        }

        void forget() {
            laidOut = NONE;
        }

        void layOut(int start) {
            if (start == laidOut) {
                return;
            }
            laidOut = start;
            collectFromTop(start, notes.chordEnd(start));
            if (size == 0) {
                return;
            }
            int low = dotted[size - 1] - size;
            lowest = low % 2 == 0 ? low + 1 : low;
            spaces = Math.min((dotted[0] + size - lowest) / 2 + 1, MOST_SPACES);
            fillCosts();
            chooseSpaces();
        }

        int distanceFrom(int step) {
            for (int i = 0; i < size; i++) {
                if (dotted[i] == step) {
                    return space[i] - step;
                }
            }
            return 0;
        }

        private void collectFromTop(int start, int end) {
            Arrays.fill(dottedAt, 0);
            for (int at = start; at < end; at++) {
                int note = notes.order[at];
                if (notes.markOf(note, DOTS) > 0) {
                    dottedAt[notes.step[note]] = 1;
                }
            }
            size = 0;
            for (int step = STEPS - 1; step >= 0; step--) {
                if (dottedAt[step] == 1 && size < MOST_NOTES) {
                    dotted[size] = step;
                    size++;
                }
            }
        }

        private int spaceAt(int j) {
            return lowest + 2 * j;
        }

        private void fillCosts() {
            for (int i = size - 1; i >= 0; i--) {
                boolean isLowest = i == size - 1;
                int below = isLowest ? 0 : TOO_DEAR;
                for (int j = 0; j < spaces; j++) {
                    if (!isLowest && j > 0) {
                        below = Math.min(below, cost[(i + 1) * MOST_SPACES + j - 1]);
                    }
                    int far = Math.abs(spaceAt(j) - dotted[i]);
                    cost[i * MOST_SPACES + j] = Math.min(below + far, TOO_DEAR);
                }
            }
        }

        private void chooseSpaces() {
            int under = spaces;
            for (int i = 0; i < size; i++) {
                int best = under - 1;
                for (int j = under - 2; j >= 0; j--) {
                    if (cost[i * MOST_SPACES + j] < cost[i * MOST_SPACES + best]) {
                        best = j;
                    }
                }
                space[i] = spaceAt(best);
                under = best;
            }
        }
    }

    /** The signs of a KEY at a BAR, with the naturals that end the KEY before. */
    private static final class KeyRow {
        private static final int[] SHARPS = {3, 0, 4, 1, 5, 2, 6};
        private static final int[] FLATS = {6, 2, 5, 1, 4, 0, 3};
        /** How many letters a KEY above 0 alters ahead of this one, by letter. */
        private static final int[] SHARPS_AHEAD = {1, 3, 5, 0, 2, 4, 6};
        private static final int[] TOP_SHARP = {9, 7, 8};
        private static final int[] TOP_FLAT = {7, 5, 6};
        private static final int MOST_SIGNS = 2 * LETTERS;
        final int[] letter = new int[MOST_SIGNS];
        final int[] alter = new int[MOST_SIGNS];
        final int[] place = new int[MOST_SIGNS];
        int size;

        static int alterOf(int fifths, int ofLetter) {
            int ahead = SHARPS_AHEAD[ofLetter];
            if (ahead < fifths) {
                return 2;
            }
            return LETTERS - 1 - ahead < -fifths ? -2 : 0;
        }

        void layOut(int before, int now, int clefKind, int cancel) {
            size = 0;
            if (before == now) {
                return;
            }
            boolean sameSide = before > 0 && now > 0 || before < 0 && now < 0;
            if (cancel == 1 || cancel == 2 && !sameSide) {
                addNaturals(before, now, clefKind);
            }
            for (int i = 0; i < Math.abs(now); i++) {
                int own = letterOf(now, i);
                append(own, alterOf(now, own), placeFor(own, now, clefKind));
            }
        }

        private void addNaturals(int before, int now, int clefKind) {
            for (int i = 0; i < Math.abs(before); i++) {
                int ended = letterOf(before, i);
                if (alterOf(now, ended) == 0) {
                    append(ended, 0, placeFor(ended, before, clefKind));
                }
            }
        }

        private static int letterOf(int fifths, int i) {
            return fifths > 0 ? SHARPS[i] : FLATS[i];
        }

        private static int placeFor(int ofLetter, int fifths, int clefKind) {
            int top = fifths > 0 ? TOP_SHARP[clefKind] : TOP_FLAT[clefKind];
            int topLetter = (LOWEST_LINE[clefKind] + top) % LETTERS;
            return top - (topLetter - ofLetter + LETTERS) % LETTERS;
        }

        private void append(int newLetter, int newAlter, int newPlace) {
            if (size >= MOST_SIGNS) {
                return;
            }
            letter[size] = newLetter;
            alter[size] = newAlter;
            place[size] = newPlace;
            size++;
        }
    }
}
