/** Each promise of the document: ordinary inputs, the edges that it names, and wrong inputs. */
public final class PromisesTest {
    private static final int NONE = -1, UNKNOWN = -2, OUTSIDE = -3, WRONG = -4, ROOM = -5;
    private static final int LEAST = Integer.MIN_VALUE, MOST = Integer.MAX_VALUE;
    private static int promise;
    private static int wrong;

    private static void due(String what, int got, int want) {
        if (got != want) {
            wrong++;
            System.out.println("promise " + promise + ": " + what + " answered " + got + ", due is " + want);
        }
    }

    public static void main(String[] args) {
        promise = 1; newObject();
        promise = 2; note(); noteRefused();
        promise = 3; mark(); markTied(); markRefused();
        promise = 4; key();
        promise = 5; clef();
        promise = 6; rule(); ruleEffects();
        promise = 7; drop();
        promise = 8; count();
        promise = 9; ordered();
        promise = 10; signRefused(); needed(); mixed(); tiedStates(); seats(); old();
        courtesyLastBar(); courtesyOctave(); courtesyTie(); courtesyKey(); courtesyOnce(); widths(); places();
        columnsShare(); columnsSearched(); columnsInTurn();
        promise = 11; extent();
        promise = 12; dot(); dotsCrowded();
        promise = 13; keySigns();
        promise = 14; keySign(); naturals(); keySignRefused();
        System.out.println(wrong == 0 ? "all promises hold" : wrong + " answers are not as due");
        if (wrong != 0) {
            System.exit(1);
        }
    }

    /** All that can be asked of the object, for what a refused call must leave as it was. */
    private static String all(SignDots x) {
        StringBuilder s = new StringBuilder();
        int size = x.count(0);
        for (int what = 0; what < 4; what++) s.append(x.count(what)).append(' ');
        for (int n = 0; n < size; n++) {
            s.append(x.ordered(n)).append(':').append(x.dot(n));
            for (int what = 0; what < 6; what++) s.append(',').append(x.sign(n, what));
        }
        for (int bar = 0; bar < 20; bar++) {
            int signs = x.keySigns(bar);
            s.append(" |").append(signs);
            for (int i = 0; i < signs; i++) {
                for (int what = 0; what < 3; what++) s.append(',').append(x.keySign(bar, i, what));
            }
        }
        return s.toString();
    }

    private static void unchanged(SignDots x, String before) {
        due("whether a refused call left all as it was", all(x).equals(before) ? 1 : 0, 1);
    }

    private static void newObject() {
        SignDots x = new SignDots();
        for (int what = 0; what < 4; what++) due("count(" + what + ")", x.count(what), 0);
        due("ordered(0)", x.ordered(0), UNKNOWN);
        due("sign(0, 0)", x.sign(0, 0), UNKNOWN);
        due("dot(0)", x.dot(0), UNKNOWN);
        due("drop()", x.drop(), UNKNOWN);
        due("extent(0, 0)", x.extent(0, 0), UNKNOWN);
        for (int bar = 0; bar < 20; bar++) due("keySigns", x.keySigns(bar), 0);
        for (int what = 0; what < 5; what++) due("rule", x.rule(what, 0), 0);
        due("key(19, 0)", x.key(19, 0), 0);
        due("clef(19, 0)", x.clef(19, 0), 0);
        SignDots y = new SignDots();
        x.note(0, 2, 0, 0, 0);
        due("count(0) of another object", y.count(0), 0);
        due("NONE", SignDots.NONE, NONE);
        due("UNKNOWN", SignDots.UNKNOWN, UNKNOWN);
        due("OUTSIDE", SignDots.OUTSIDE, OUTSIDE);
        due("WRONG", SignDots.WRONG, WRONG);
        due("ROOM", SignDots.ROOM, ROOM);
    }

    private static void note() {
        SignDots x = new SignDots();
        due("the least of all", x.note(0, -4, 0, 0, 0), 0);
        due("the greatest of all", x.note(69, 4, 19, 999, 3), 1);
        due("the same NOTE once more", x.note(69, 4, 19, 999, 3), 2);
        due("one ahead of these", x.note(30, 0, 3, 0, 1), 3);
        for (int n = 4; n < 60; n++) due("note " + n, x.note(n, 0, n % 20, n, n % 4), n);
        due("the 61st", x.note(0, 0, 0, 0, 0), ROOM);
        due("the 61st, out of bounds", x.note(0, 0, 0, 1000, 0), OUTSIDE);
        due("NOTES", x.count(0), 60);
        x.drop();
        due("one in the room of another", x.note(0, 0, 0, 0, 0), 59);
    }

    private static void noteRefused() {
        SignDots x = new SignDots();
        x.note(30, 2, 0, 0, 0);
        String before = all(x);
        int[] usual = {30, 0, 0, 0, 0};
        int[][] bad = {{-1, 70}, {-5, 5}, {-1, 20}, {-1, 1000}, {-1, 4}};
        for (int i = 0; i < 5; i++) {
            for (int v : new int[] {bad[i][0], bad[i][1], LEAST, MOST}) {
                int[] a = usual.clone();
                a[i] = v;
                due("argument " + i + " = " + v, x.note(a[0], a[1], a[2], a[3], a[4]), OUTSIDE);
            }
        }
        unchanged(x, before);
    }

    private static void mark() {
        SignDots x = new SignDots();
        x.note(30, 2, 0, 0, 0);
        due("GRACE", x.mark(0, 1, 1), 0);
        due("GRACE once more", x.mark(0, 1, 1), 1);
        due("the width of a GRACE", x.sign(0, 3), 7);
        due("no GRACE", x.mark(0, 1, 0), 1);
        due("the width without", x.sign(0, 3), 10);
        due("DOTS 3", x.mark(0, 2, 3), 0);
        due("DOTS 1", x.mark(0, 2, 1), 3);
        due("DOTS 0", x.mark(0, 2, 0), 1);
        due("dot", x.dot(0), NONE);
        due("not TIED", x.mark(0, 0, 0), 0);
    }

    private static void markTied() {
        SignDots x = new SignDots();
        x.note(30, 2, 0, 0, 0);
        x.note(30, 2, 0, 0, 0);
        due("TIED to its own CHORD", x.mark(1, 0, 1), WRONG);
        x.note(30, 2, 0, 1, 1);
        due("TIED to another VOICE", x.mark(2, 0, 1), WRONG);
        x.note(37, 2, 0, 1, 0);
        due("TIED to another STEP", x.mark(3, 0, 1), WRONG);
        x.note(30, 1, 0, 1, 0);
        due("TIED to another ALTER", x.mark(4, 0, 1), WRONG);
        x.note(30, 1, 3, 0, 0);
        due("TIED over BARS", x.mark(5, 0, 1), 0);
        due("counts as TIED", x.sign(5, 1), 1);
        due("TIED once more", x.mark(5, 0, 1), 1);
        x.note(30, 2, 2, 5, 0);
        due("counts no more, with one between", x.sign(5, 1), 0);
        due("can't be TIED now", x.mark(5, 0, 1), WRONG);
        x.drop();
        due("counts again", x.sign(5, 1), 1);
        x.note(30, 2, 2, 5, 0);
        due("it stayed TIED", x.mark(5, 0, 0), 1);
        x.drop();
        due("it is TIED no more", x.sign(5, 1), 0);
        // Of a CHORD before, the last one in ORDER is the one before.
        SignDots y = new SignDots();
        y.note(30, 2, 0, 0, 0);
        y.note(30, -2, 0, 0, 0);
        y.note(30, 2, 0, 1, 0);
        due("TIED behind the nearest one", y.mark(2, 0, 1), WRONG);
        y.note(30, -2, 0, 1, 0);
        due("TIED to the nearest one", y.mark(3, 0, 1), 0);
        y.note(30, 2, 1, 0, 0);
        due("a later TIME in a lesser BAR is before", y.mark(4, 0, 1), WRONG);
    }

    private static void markRefused() {
        SignDots x = new SignDots();
        x.note(30, 2, 0, 5, 0);
        x.mark(0, 2, 2);
        String before = all(x);
        for (int n : new int[] {-1, 1, LEAST, MOST}) {
            due("NOTE " + n, x.mark(n, 1, 1), UNKNOWN);
            due("NOTE " + n + ", all wrong", x.mark(n, 9, 9), UNKNOWN);
        }
        for (int what : new int[] {-1, 3, LEAST, MOST}) due("what " + what, x.mark(0, what, 0), OUTSIDE);
        for (int v : new int[] {-1, 2, LEAST, MOST}) {
            due("TIED " + v, x.mark(0, 0, v), OUTSIDE);
            due("GRACE " + v, x.mark(0, 1, v), OUTSIDE);
        }
        for (int v : new int[] {-1, 4, LEAST, MOST}) due("DOTS " + v, x.mark(0, 2, v), OUTSIDE);
        due("TIED to none", x.mark(0, 0, 1), WRONG);
        unchanged(x, before);
        due("DOTS were left", x.mark(0, 2, 0), 2);
        due("TIED was left", x.mark(0, 0, 0), 0);
    }

    private static void key() {
        SignDots x = new SignDots();
        due("key(5, 3)", x.key(5, 3), 0);
        due("key(2, -7)", x.key(2, -7), 0);
        due("BAR 4 is as 2", x.key(4, 7), -7);
        due("BAR 19 is as 5", x.key(19, 0), 3);
        due("BAR 5 was told", x.key(5, 1), 3);
        due("BAR 18 is as 5", x.key(18, 1), 1);
        due("BAR 3 is as 2", x.key(3, -7), -7);
        due("key(0, 2)", x.key(0, 2), 0);
        due("BAR 1 is as 0", x.key(1, 2), 2);
        due("BAR 3 was told the like of 2", x.key(2, 6), -7);
        due("BAR 3 keeps it", x.key(3, 0), -7);
        String before = all(x);
        for (int bar : new int[] {-1, 20, LEAST, MOST}) due("BAR " + bar, x.key(bar, 0), OUTSIDE);
        for (int k : new int[] {-8, 8, LEAST, MOST}) due("KEY " + k, x.key(0, k), OUTSIDE);
        unchanged(x, before);
        // f, c, .. are altered in turn: 3 0 4 1 5 2 6; below 0 from the other end.
        int[] sharps = {3, 0, 4, 1, 5, 2, 6};
        for (int k = -7; k <= 7; k++) {
            for (int i = 0; i < 7; i++) {
                SignDots y = new SignDots();
                y.key(0, k);
                int alter = k > 0 && i < k ? 2 : k < 0 && 6 - i < -k ? -2 : 0;
                y.note(sharps[i] + 28, alter, 0, 0, 0);
                y.note(sharps[i] + 35, alter == 0 ? 1 : 0, 0, 0, 0);
                due("KEY " + k + ", letter " + sharps[i] + " as it alters", y.sign(0, 0), 0);
                due("KEY " + k + ", letter " + sharps[i] + " otherwise", y.sign(1, 0), 1);
            }
        }
    }

    private static void clef() {
        SignDots x = new SignDots();
        x.note(30, 0, 0, 0, 0);
        x.note(30, 0, 4, 0, 0);
        x.note(30, 0, 5, 0, 0);
        due("clef(5, 2)", x.clef(5, 2), 0);
        due("clef(1, 1)", x.clef(1, 1), 0);
        due("BAR 4 is as 1", x.clef(4, 1), 1);
        due("BAR 19 is as 5", x.clef(19, 0), 2);
        due("in CLEF 0", x.sign(0, 5), 100);
        due("in CLEF 1", x.sign(1, 5), 112);
        due("in CLEF 2", x.sign(2, 5), 106);
        String before = all(x);
        for (int bar : new int[] {-1, 20, LEAST, MOST}) due("BAR " + bar, x.clef(bar, 0), OUTSIDE);
        for (int k : new int[] {-1, 3, LEAST, MOST}) due("CLEF " + k, x.clef(0, k), OUTSIDE);
        unchanged(x, before);
    }

    private static void rule() {
        SignDots x = new SignDots();
        int[] most = {1, 1, 15, 1, 2};
        for (int what = 0; what < 5; what++) {
            due("the most of RULE " + what, x.rule(what, most[what]), 0);
            due("more", x.rule(what, most[what] + 1), OUTSIDE);
            due("less than 0", x.rule(what, -1), OUTSIDE);
            due("least", x.rule(what, LEAST), OUTSIDE);
            due("greatest", x.rule(what, MOST), OUTSIDE);
        }
        for (int what = 0; what < 5; what++) due("RULE " + what + " was kept", x.rule(what, 0), most[what]);
        for (int what : new int[] {-1, 5, LEAST, MOST}) due("RULE " + what, x.rule(what, 0), OUTSIDE);
    }

    private static void ruleEffects() {
        SignDots x = new SignDots();
        x.note(30, 2, 0, 0, 0);
        x.note(37, 2, 0, 1, 1);
        due("each STEP for itself", x.count(1), 2);
        x.rule(0, 1);
        due("one sign for all octaves", x.count(1), 1);
        x.rule(1, 1);
        due("each VOICE for itself", x.count(1), 2);
        x.rule(0, 0);
        x.rule(1, 0);
        due("as at first", x.count(1), 2);
    }

    private static void drop() {
        SignDots x = new SignDots();
        x.note(30, 2, 1, 0, 0);
        x.note(30, 2, 0, 0, 0);
        x.note(30, 2, 2, 0, 0);
        x.mark(2, 0, 1);
        x.mark(2, 1, 1);
        x.mark(2, 2, 2);
        due("drop", x.drop(), 2);
        due("the last NOTE went", x.sign(2, 0), UNKNOWN);
        due("its CHORD went", x.extent(2, 0), UNKNOWN);
        due("a new one", x.note(30, 2, 2, 0, 0), 2);
        due("is not TIED", x.mark(2, 0, 0), 0);
        due("is no GRACE", x.mark(2, 1, 0), 0);
        due("has no DOTS", x.mark(2, 2, 0), 0);
        x.drop();
        due("drop", x.drop(), 1);
        due("the one in ORDER", x.ordered(0), 0);
        due("no other", x.ordered(1), UNKNOWN);
        due("drop", x.drop(), 0);
        due("none is there", x.drop(), UNKNOWN);
        due("none is there", x.count(0), 0);
    }

    private static void count() {
        SignDots x = new SignDots();
        x.rule(2, 1);
        x.note(30, 2, 0, 0, 0);
        x.note(31, 0, 0, 0, 0);
        x.note(30, 2, 0, 7, 0);
        x.note(30, 0, 1, 0, 0);
        x.note(30, 0, 1, 7, 0);
        due("NOTES", x.count(0), 5);
        due("signs NEEDED", x.count(1), 1);
        due("COURTESIES", x.count(2), 1);
        due("CHORDS", x.count(3), 4);
        for (int what : new int[] {-1, 4, LEAST, MOST}) due("what " + what, x.count(what), OUTSIDE);
    }

    private static void ordered() {
        SignDots x = new SignDots();
        x.note(30, 0, 2, 5, 0);
        x.note(31, 0, 2, 0, 0);
        x.note(20, 0, 2, 5, 0);
        x.note(40, 0, 1, 999, 3);
        x.note(10, 0, 19, 0, 0);
        x.note(69, 0, 2, 5, 0);
        int[] want = {3, 1, 0, 2, 5, 4};
        for (int k = 0; k < 6; k++) due("ordered(" + k + ")", x.ordered(k), want[k]);
        for (int k : new int[] {-1, 6, LEAST, MOST}) due("ordered(" + k + ")", x.ordered(k), UNKNOWN);
        x.drop();
        x.drop();
        int[] left = {3, 1, 0, 2};
        for (int k = 0; k < 4; k++) due("ordered(" + k + ") after drops", x.ordered(k), left[k]);
        due("ordered(4) after drops", x.ordered(4), UNKNOWN);
    }

    private static void signRefused() {
        SignDots x = new SignDots();
        x.note(30, 0, 0, 0, 0);
        for (int n : new int[] {-1, 1, LEAST, MOST}) {
            due("NOTE " + n, x.sign(n, 0), UNKNOWN);
            due("NOTE " + n + ", what 6", x.sign(n, 6), UNKNOWN);
        }
        for (int what : new int[] {-1, 6, LEAST, MOST}) due("what " + what, x.sign(0, what), OUTSIDE);
        int[] without = {0, 0, 0, 0, NONE, 100};
        for (int what = 0; what < 6; what++) due("without a sign, what " + what, x.sign(0, what), without[what]);
    }

    private static void needed() {
        SignDots x = new SignDots();
        x.key(0, 1);
        int f = x.note(31, 2, 0, 0, 0);
        int natural = x.note(31, 0, 0, 1, 0);
        int again = x.note(31, 0, 0, 2, 0);
        int octave = x.note(38, 2, 0, 3, 0);
        int nextBar = x.note(31, 2, 1, 0, 0);
        int quarter = x.note(31, 1, 1, 1, 0);
        int like = x.note(31, 1, 1, 1, 2);
        due("as in the KEY", x.sign(f, 0), 0);
        due("otherwise", x.sign(natural, 0), 1);
        due("as the sign ahead", x.sign(again, 0), 0);
        due("the sign is not for another octave", x.sign(octave, 0), 0);
        due("a new BAR", x.sign(nextBar, 0), 0);
        due("the first of a STEP", x.sign(quarter, 0), 1);
        due("the second of a STEP", x.sign(like, 0), 0);
        due("told late, first in ORDER", x.sign(x.note(31, 0, 0, 0, 0), 0), 1);
        due("it makes others NEED", x.sign(f, 0), 1);
    }

    private static void mixed() {
        SignDots x = new SignDots();
        int a = x.note(30, 0, 0, 0, 0);
        int b = x.note(30, 2, 0, 0, 1);
        int c = x.note(30, 2, 0, 0, 2);
        int d = x.note(30, 0, 0, 0, 3);
        int e = x.note(30, 0, 0, 1, 0);
        int f = x.note(30, 0, 0, 2, 0);
        due("unlike ones: a natural", x.sign(a, 0), 1);
        due("unlike ones: a sharp", x.sign(b, 0), 1);
        due("the second sharp", x.sign(c, 0), 0);
        due("the second natural", x.sign(d, 0), 0);
        due("after MIXED", x.sign(e, 0), 1);
        due("then it holds", x.sign(f, 0), 0);
        // One SEAT with two STEPS: each STEP has its own first.
        SignDots y = new SignDots();
        y.rule(0, 1);
        y.note(30, 0, 0, 0, 0);
        y.note(37, 0, 0, 0, 0);
        y.note(44, 2, 0, 0, 0);
        y.note(37, 0, 0, 0, 1);
        y.note(30, 2, 0, 1, 0);
        y.note(37, 2, 0, 1, 0);
        y.note(37, 2, 0, 1, 0);
        int[] want = {1, 1, 1, 0, 1, 1, 0};
        for (int n = 0; n < want.length; n++) due("octaves in one SEAT, NOTE " + n, y.sign(n, 0), want[n]);
    }

    private static void tiedStates() {
        SignDots x = new SignDots();
        x.note(30, 2, 0, 0, 0);
        int tied = x.note(30, 2, 1, 0, 0);
        x.mark(tied, 0, 1);
        int after = x.note(30, 0, 1, 1, 0);
        due("TIED ones NEED none", x.sign(tied, 0), 0);
        due("TIED ones change no STATE", x.sign(after, 0), 0);
        due("counts as TIED", x.sign(tied, 1), 1);
        due("does not", x.sign(after, 1), 0);
        // A TIED one beside one that is not: alike, the second is told by the STATE; unlike, the STATE is MIXED.
        int beside = x.note(30, 2, 1, 0, 1);
        due("beside a TIED one that is like", x.sign(beside, 0), 1);
        due("its ALTER is the STATE", x.sign(after, 0), 1);
        x.drop();
        beside = x.note(30, 0, 1, 0, 1);
        due("beside a TIED one that is unlike", x.sign(beside, 0), 1);
        due("MIXED after it", x.sign(after, 0), 1);
        due("the TIED one has none", x.sign(tied, 0), 0);
        // All TIED and unlike: MIXED, too.
        SignDots y = new SignDots();
        y.note(30, 2, 0, 0, 0);
        y.note(30, 0, 0, 0, 1);
        y.note(30, 2, 1, 0, 0);
        y.note(30, 0, 1, 0, 1);
        y.mark(2, 0, 1);
        y.mark(3, 0, 1);
        y.note(30, 0, 1, 1, 0);
        due("after TIED ones that are unlike", y.sign(4, 0), 1);
    }

    private static void seats() {
        SignDots x = new SignDots();
        x.note(30, 2, 0, 0, 0);
        x.note(30, 0, 0, 0, 1);
        x.note(30, 0, 0, 1, 1);
        due("one SEAT for all VOICES", x.sign(1, 0), 1);
        due("MIXED", x.sign(2, 0), 1);
        x.rule(1, 1);
        due("a SEAT for each VOICE", x.sign(1, 0), 0);
        due("nothing MIXED", x.sign(2, 0), 0);
        due("the other VOICE", x.sign(0, 0), 1);
        SignDots y = new SignDots();
        y.note(2, 2, 0, 0, 3);
        y.note(65, 2, 0, 1, 3);
        y.note(65, 0, 0, 2, 2);
        y.rule(0, 1);
        due("a letter for all octaves", y.sign(1, 0), 0);
        due("and all VOICES", y.sign(2, 0), 1);
        y.rule(1, 1);
        due("not for another VOICE", y.sign(2, 0), 0);
        y.note(0, 2, 0, 0, 3);
        due("the first SEAT with the last VOICE", y.sign(3, 0), 1);
    }

    private static void old() {
        SignDots x = new SignDots();
        int[] alters = {4, 2, 4, 1, -4, -2, -4, 2, 4, -2};
        for (int i = 0; i < alters.length; i++) x.note(30, alters[i], 0, i, 0);
        for (int i = 0; i < alters.length; i++) due("without OLD, NOTE " + i, x.sign(i, 2), 0);
        x.rule(3, 1);
        int[] want = {0, 1, 0, 0, 0, 1, 0, 0, 0, 0};
        for (int i = 0; i < alters.length; i++) due("with OLD, NOTE " + i, x.sign(i, 2), want[i]);
        due("its width", x.sign(1, 3), 17);
        due("its width", x.sign(5, 3), 16);
        SignDots y = new SignDots();
        y.rule(3, 1);
        y.note(30, 4, 0, 0, 0);
        y.note(30, 2, 0, 1, 0);
        y.note(30, -2, 0, 1, 1);
        y.note(30, 2, 0, 2, 0);
        due("among unlike ones, too", y.sign(1, 2), 1);
        due("the other one has none", y.sign(2, 2), 0);
        due("none after MIXED", y.sign(3, 2), 0);
    }

    private static void courtesyLastBar() {
        SignDots x = new SignDots();
        x.note(30, 2, 0, 0, 0);
        x.note(30, 0, 1, 0, 0);
        x.note(30, 0, 2, 0, 0);
        due("no COURTESY without its bit", x.sign(1, 0), 0);
        x.rule(2, 14);
        due("no COURTESY by the other bits", x.sign(1, 0), 0);
        x.rule(2, 1);
        due("a sharp in the BAR before", x.sign(1, 0), 2);
        due("natural in the BAR before", x.sign(2, 0), 0);
        due("no BAR before", x.sign(0, 0), 1);
        x.note(30, 2, 1, 5, 0);
        x.note(30, -2, 1, 5, 0);
        due("MIXED in the BAR before", x.sign(2, 0), 2);
        // The BAR before is asked for, too, when the BAR itself has had NOTES of the SEAT.
        SignDots w = new SignDots();
        w.rule(2, 1);
        int[] alters = {2, 2, 0, 0};
        int[] later = {1, 1, 1, 2};
        for (int i = 0; i < 4; i++) w.note(30, alters[i], i == 0 ? 0 : 1, i, 0);
        for (int i = 0; i < 4; i++) due("after others in the BAR, NOTE " + i, w.sign(i, 0), later[i]);
        SignDots y = new SignDots();
        y.rule(2, 1);
        y.key(0, 7);
        y.key(3, 0);
        y.note(30, 0, 2, 0, 0);
        y.note(30, 0, 3, 0, 0);
        y.note(31, 0, 3, 0, 0);
        y.note(31, 0, 5, 0, 0);
        due("natural at its end", y.sign(1, 0), 0);
        due("without NOTES there, by its KEY", y.sign(2, 0), 2);
        due("only the BAR before", y.sign(3, 0), 0);
    }

    private static void courtesyOctave() {
        SignDots x = new SignDots();
        x.note(30, 2, 0, 1, 0);
        x.note(37, 0, 0, 2, 0);
        x.note(44, 0, 0, 1, 0);
        x.note(31, 0, 0, 2, 0);
        x.note(37, 0, 1, 2, 0);
        x.rule(2, 13);
        due("no COURTESY by the other bits", x.sign(1, 0), 0);
        x.rule(2, 2);
        due("a sharp in another octave", x.sign(1, 0), 2);
        due("in the same CHORD", x.sign(2, 0), 0);
        due("another LETTER", x.sign(3, 0), 0);
        due("another BAR", x.sign(4, 0), 0);
        x.note(30, 0, 0, 1, 2);
        due("MIXED in another octave", x.sign(1, 0), 2);
        x.drop();
        x.rule(1, 1);
        due("of its VOICE", x.sign(1, 0), 2);
        x.note(37, 0, 0, 2, 1);
        due("of another VOICE", x.sign(5, 0), 0);
        x.rule(1, 0);
        x.rule(0, 1);
        due("with OCTAVES 1 it NEEDS one", x.sign(1, 0), 1);
        due("with OCTAVES 1 none is a COURTESY", x.count(2), 0);
        // A TIED NOTE is a NOTE in the BAR, but its SEAT's STATE is the KEY's.
        SignDots y = new SignDots();
        y.rule(2, 2);
        y.note(30, 2, 0, 0, 0);
        y.note(30, 2, 1, 0, 0);
        y.mark(1, 0, 1);
        y.note(37, 0, 1, 1, 0);
        due("after a TIED one in another octave", y.sign(2, 0), 0);
        y.key(1, 6);
        y.note(37, 0, 1, 2, 0);
        due("otherwise than the KEY", y.sign(2, 0), 1);
        due("after a TIED one in another octave that has the KEY's STATE", y.sign(3, 0), 2);
    }

    private static void courtesyTie() {
        SignDots x = new SignDots();
        x.note(30, 2, 0, 0, 0);
        x.note(30, 2, 2, 0, 0);
        x.mark(1, 0, 1);
        x.note(30, 0, 2, 1, 0);
        x.note(30, 0, 3, 1, 0);
        x.rule(2, 11);
        due("no COURTESY by the other bits", x.sign(2, 0), 0);
        x.rule(2, 4);
        due("after a TIED sharp", x.sign(2, 0), 2);
        due("in another BAR", x.sign(3, 0), 0);
        x.mark(1, 0, 0);
        due("it is TIED no more", x.sign(2, 0), 1);
        // TIED within the BAR: none.
        SignDots y = new SignDots();
        y.rule(2, 4);
        y.note(30, 2, 0, 0, 0);
        y.note(30, 2, 0, 1, 0);
        y.mark(1, 0, 1);
        y.note(30, 0, 0, 2, 0);
        y.note(30, 0, 0, 3, 0);
        due("TIED in its BAR", y.sign(3, 0), 0);
        // A TIED one with the same ALTER: none.
        SignDots z = new SignDots();
        z.rule(2, 4);
        z.rule(1, 1);
        z.rule(0, 1);
        z.note(30, 0, 0, 0, 0);
        z.note(30, 0, 1, 0, 0);
        z.mark(1, 0, 1);
        z.note(37, 0, 1, 0, 0);
        z.note(44, 0, 1, 1, 0);
        due("in the CHORD of a TIED one that is like", z.sign(2, 0), 0);
        due("after a TIED one that is like", z.sign(3, 0), 0);
    }

    private static void courtesyKey() {
        SignDots x = new SignDots();
        x.key(1, 1);
        x.key(2, -1);
        x.note(31, 2, 1, 0, 0);
        x.note(30, 0, 1, 0, 0);
        x.note(34, -2, 2, 0, 0);
        x.note(31, 0, 2, 0, 0);
        x.note(31, 0, 3, 0, 0);
        x.note(31, 0, 0, 0, 0);
        x.rule(2, 6);
        due("no COURTESY by the other bits", x.sign(0, 0), 0);
        x.rule(2, 8);
        int[] want = {2, 0, 2, 2, 0, 0};
        for (int n = 0; n < want.length; n++) due("by the KEY, NOTE " + n, x.sign(n, 0), want[n]);
        x.key(0, 1);
        due("BAR 0 has none before", x.sign(5, 0), 1);
        x.drop();
        x.note(31, 2, 0, 0, 0);
        due("BAR 0 has none before", x.sign(5, 0), 0);
    }

    private static void courtesyOnce() {
        SignDots x = new SignDots();
        x.key(1, 1);
        x.rule(2, 8);
        x.note(31, 0, 1, 0, 0);
        x.note(31, 2, 1, 1, 0);
        x.note(31, 2, 1, 2, 0);
        x.note(31, 2, 1, 3, 0);
        due("NEEDED ones", x.sign(1, 0), 1);
        due("the first that NEEDS none", x.sign(2, 0), 2);
        due("one in a BAR", x.sign(3, 0), 0);
        SignDots y = new SignDots();
        y.key(1, 1);
        y.rule(2, 8);
        y.note(31, 2, 1, 0, 0);
        y.note(31, 2, 1, 0, 1);
        y.note(38, 2, 1, 0, 0);
        int[] bySteps = {2, 0, 2};
        for (int n = 0; n < 3; n++) due("by STEPS, NOTE " + n, y.sign(n, 0), bySteps[n]);
        y.rule(0, 1);
        int[] byLetters = {2, 0, 0};
        for (int n = 0; n < 3; n++) due("by LETTERS, NOTE " + n, y.sign(n, 0), byLetters[n]);
        y.rule(1, 1);
        int[] byVoices = {2, 2, 0};
        for (int n = 0; n < 3; n++) due("by VOICES, NOTE " + n, y.sign(n, 0), byVoices[n]);
        // A COURTESY changes no STATE, and TIED NOTES have none.
        SignDots z = new SignDots();
        z.key(1, 1);
        z.rule(2, 8);
        z.note(31, 2, 0, 0, 0);
        z.note(31, 2, 1, 0, 0);
        z.mark(1, 0, 1);
        z.note(31, 2, 1, 0, 1);
        z.note(31, 2, 1, 1, 1);
        int[] want = {1, 0, 2, 0};
        for (int n = 0; n < 4; n++) due("beside a TIED one, NOTE " + n, z.sign(n, 0), want[n]);
    }

    private static void widths() {
        int[] plain = {16, 12, 9, 9, 7, 8, 10, 14, 10};
        for (int alter = -4; alter <= 4; alter++) {
            SignDots x = new SignDots();
            x.rule(2, 1);
            int other = alter == 0 ? 1 : 0;
            x.note(30, other, 1, 0, 0);
            x.note(30, alter, 1, 1, 0);
            int w = plain[alter + 4];
            due("width of " + alter, x.sign(1, 3), w);
            x.mark(1, 1, 1);
            due("width of a GRACE " + alter, x.sign(1, 3), w - w / 3);
            x.note(30, 0, 2, 0, 0);
            if (alter != 0) {
                due("COURTESY after " + alter, x.sign(2, 3), 15);
                x.mark(2, 1, 1);
                due("COURTESY of a GRACE", x.sign(2, 3), 10);
            }
        }
        SignDots y = new SignDots();
        y.rule(3, 1);
        y.note(30, -4, 0, 0, 0);
        y.note(30, -2, 0, 1, 0);
        y.mark(1, 1, 1);
        due("a GRACE with a natural ahead", y.sign(1, 3), 11);
        y.key(1, 2);
        y.rule(2, 8);
        y.note(31, 2, 1, 0, 0);
        due("a sharp in brackets", y.sign(2, 3), 18);
        due("no natural ahead of a COURTESY", y.sign(2, 2), 0);
    }

    private static void places() {
        SignDots x = new SignDots();
        x.note(0, 0, 0, 0, 0);
        x.note(69, 0, 0, 0, 0);
        int[] low = {70, 82, 76};
        for (int kind = 0; kind < 3; kind++) {
            x.clef(0, kind);
            due("the lowest in CLEF " + kind, x.sign(0, 5), low[kind]);
            due("the highest in CLEF " + kind, x.sign(1, 5), low[kind] + 69);
        }
    }

    /** Two signs share a COLUMN from a distance on that is told by the DOWN of the higher and the UP of the lower. */
    private static void columnsShare() {
        for (int high = -4; high <= 4; high++) {
            for (int low = -4; low <= 4; low++) {
                int down = high < 0 ? 2 : high == 4 ? 1 : 3;
                int up = low < 0 ? 4 : low == 4 ? 1 : 3;
                for (int distance = down + up - 1; distance <= down + up; distance++) {
                    if (distance == 7 && high != low) continue;
                    SignDots x = new SignDots();
                    // A CHORD ahead makes both of them NEED a sign.
                    x.note(30, low == 1 ? 0 : 1, 0, 0, 0);
                    x.note(30 + distance, high == 1 ? 0 : 1, 0, 0, 0);
                    x.note(30, low, 0, 1, 0);
                    x.note(30 + distance, high, 0, 1, 0);
                    String name = high + " above " + low + " by " + distance;
                    due("COLUMN of the higher, " + name, x.sign(3, 4), 0);
                    due("COLUMN of the lower, " + name, x.sign(2, 4), distance < down + up ? 1 : 0);
                }
            }
        }
        // Brackets make a double sharp reach 2 both ways; in the BAR before both STEPS are natural.
        for (int distance = 3; distance <= 4; distance++) {
            SignDots x = new SignDots();
            x.rule(2, 1);
            for (int time = 0; time < 2; time++) {
                x.note(30, 4, 1, time, 0);
                x.note(30 + distance, 4, 1, time, 0);
            }
            due("two double sharps", x.extent(1, 0), 10);
            due("a COURTESY", x.sign(2, 0), 2);
            due("COURTESIES of two by " + distance, x.extent(1, 1), distance == 3 ? 36 : 18);
            due("the higher one", x.sign(3, 4), 0);
            due("the lower one", x.sign(2, 4), distance == 3 ? 1 : 0);
        }
        SignDots y = new SignDots();
        y.note(30, 4, 0, 0, 0);
        y.note(32, 4, 0, 0, 0);
        y.note(34, 4, 0, 0, 0);
        due("three by the least distance", y.extent(0, 0), 10);
        y.note(31, 4, 0, 1, 0);
        y.note(32, 2, 0, 1, 0);
        y.note(35, 2, 0, 1, 0);
        y.note(39, 2, 0, 1, 0);
        due("the highest", y.sign(6, 4), 0);
        due("the lowest", y.sign(3, 4), 1);
        due("the second, 4 above the lowest", y.sign(5, 4), 1);
        due("the last but one", y.sign(4, 4), 0);
        SignDots z = new SignDots();
        z.rule(2, 8);
        z.key(1, 7);
        z.note(30, 2, 1, 0, 0);
        z.note(36, 2, 1, 0, 0);
        due("COURTESIES of sharps reach 3", z.extent(1, 0), 18);
        z.note(42, 2, 1, 0, 0);
        due("and a third one", z.extent(1, 0), 18);
    }

    private static void columnsSearched() {
        SignDots x = new SignDots();
        int[] alters = {2, -2, 2, -4, 4, 3};
        for (int i = 0; i < 6; i++) x.note(30 + 2 * i, alters[i], 0, 0, 0);
        int[] want = {1, 0, 2, 1, 2, 0};
        for (int i = 0; i < 6; i++) due("COLUMN of " + i, x.sign(i, 4), want[i]);
        due("their width", x.extent(0, 0), 40);
        // Six at one place: a COLUMN for each, in ZIGZAG.
        SignDots y = new SignDots();
        int[] six = {-4, -3, -1, 1, 2, 3};
        for (int i = 0; i < 6; i++) y.note(30, six[i], 0, 0, 0);
        int[] zigzag = {0, 2, 4, 5, 3, 1};
        for (int i = 0; i < 6; i++) due("at one place, COLUMN of " + i, y.sign(i, 4), zigzag[i]);
        due("at one place, the width", y.extent(0, 0), 16 + 12 + 9 + 8 + 10 + 14);
        // The least width is not what taking COLUMNS in turn gives: the wide ones go together.
        SignDots z = new SignDots();
        z.note(44, 1, 0, 0, 0);
        z.note(40, -4, 0, 0, 0);
        z.note(34, 1, 0, 0, 0);
        z.note(30, -4, 0, 0, 0);
        due("the wide ones together", z.extent(0, 0), 24);
        due("first in ZIGZAG", z.sign(0, 4), 0);
        due("last", z.sign(3, 4), 1);
        due("second", z.sign(1, 4), 1);
        due("last but one", z.sign(2, 4), 0);
    }

    private static void columnsInTurn() {
        SignDots x = new SignDots();
        int[] steps = {30, 32, 34, 36, 38, 40, 31};
        int[] alters = {2, -2, 2, -4, 4, 3, 2};
        for (int i = 0; i < 7; i++) x.note(steps[i], alters[i], 0, 0, 0);
        int[] want = {0, 3, 4, 2, 1, 0, 1};
        for (int i = 0; i < 7; i++) due("COLUMN of " + i, x.sign(i, 4), want[i]);
        due("their width", x.extent(0, 0), 59);
        // Eight at one place, with each VOICE for itself: eight COLUMNS.
        SignDots y = new SignDots();
        y.rule(1, 1);
        for (int i = 0; i < 4; i++) {
            y.note(30, 2, 0, 0, i);
            y.note(30, -2, 0, 0, i);
        }
        int[] zigzag = {0, 2, 4, 6, 7, 5, 3, 1};
        for (int i = 0; i < 8; i++) due("at one place, COLUMN of " + i, y.sign(i, 4), zigzag[i]);
        due("at one place, the width", y.extent(0, 0), 76);
    }

    private static void extent() {
        SignDots x = new SignDots();
        x.note(30, 2, 3, 7, 0);
        x.note(32, 2, 3, 7, 0);
        x.note(30, 2, 3, 8, 0);
        due("two COLUMNS", x.extent(3, 7), 20);
        due("no signs", x.extent(3, 8), 0);
        x.mark(0, 1, 1);
        due("with a GRACE", x.extent(3, 7), 17);
        for (int bar : new int[] {-1, 2, 4, 20, LEAST, MOST}) due("BAR " + bar, x.extent(bar, 7), UNKNOWN);
        for (int time : new int[] {-1, 6, 9, 1000, LEAST, MOST}) due("TIME " + time, x.extent(3, time), UNKNOWN);
    }

    private static void dot() {
        SignDots x = new SignDots();
        x.note(31, 0, 0, 0, 0);
        x.note(34, 0, 0, 0, 0);
        due("none", x.dot(0), NONE);
        x.mark(0, 2, 1);
        x.mark(1, 2, 3);
        due("in a space", x.dot(0), 101);
        due("on a line", x.dot(1), 105);
        for (int n : new int[] {-1, 2, LEAST, MOST}) due("NOTE " + n, x.dot(n), UNKNOWN);
        x.note(34, 2, 0, 0, 1);
        due("without DOTS at a place that has some", x.dot(2), NONE);
        x.mark(2, 2, 1);
        due("like places share", x.dot(2), 105);
        due("like places share", x.dot(1), 105);
        x.note(35, 0, 0, 0, 0);
        due("one without DOTS does not count", x.dot(1), 105);
        x.mark(3, 2, 1);
        due("with DOTS it does", x.dot(1), 103);
        x.drop();
        x.clef(0, 1);
        due("in CLEF 1", x.dot(0), 113);
        due("in CLEF 1", x.dot(1), 117);
        SignDots y = new SignDots();
        y.note(0, 0, 0, 0, 0);
        y.note(69, 0, 0, 0, 0);
        y.mark(0, 2, 1);
        y.mark(1, 2, 1);
        due("far below", y.dot(0), 71);
        due("far above", y.dot(1), 139);
        y.note(1, 0, 0, 1, 0);
        y.mark(2, 2, 1);
        due("another CHORD", y.dot(2), 71);
        due("is for itself", y.dot(0), 71);
        y.note(68, 0, 0, 0, 0);
        y.mark(3, 2, 1);
        due("next to the highest", y.dot(3), 137);
        due("the highest", y.dot(1), 139);
    }

    private static void dotsOf(int[] steps, int[] want) {
        SignDots x = new SignDots();
        for (int i = 0; i < steps.length; i++) {
            x.note(steps[i], 0, 0, 0, 0);
            x.mark(i, 2, 1);
        }
        for (int i = 0; i < steps.length; i++) due("the space of " + steps[i], x.dot(i), want[i] + 100);
    }

    private static void dotsCrowded() {
        dotsOf(new int[] {33, 34, 35, 36}, new int[] {1, 3, 5, 7});
        dotsOf(new int[] {31, 30}, new int[] {1, -1});
        dotsOf(new int[] {30, 31, 32}, new int[] {-1, 1, 3});
        // 3 1 -1 would be as near as 5 3 1: the higher spaces are taken.
        dotsOf(new int[] {31, 32, 33}, new int[] {1, 3, 5});
        // All sixty: half of them move upward, half downward.
        SignDots x = new SignDots();
        for (int i = 0; i < 60; i++) {
            x.note(5 + i, 0, 0, 0, 0);
            x.mark(i, 2, 1);
        }
        due("the lowest of sixty", x.dot(0), 100 - 25 - 30);
        due("the highest of sixty", x.dot(59), 100 - 25 - 30 + 118);
    }

    private static void keySigns() {
        SignDots x = new SignDots();
        x.key(0, 3);
        x.key(2, 3);
        x.key(4, 1);
        x.key(6, -2);
        x.key(8, -5);
        x.key(10, 0);
        x.key(12, 7);
        x.key(14, -7);
        int[] bars = {0, 1, 2, 4, 6, 8, 10, 11, 12, 14, 19};
        int[][] want = {
            {3, 0, 0, 1, 2, 5, 0, 0, 7, 7, 0},
            {3, 0, 0, 3, 3, 5, 5, 0, 7, 7, 0},
            {3, 0, 0, 1, 3, 5, 5, 0, 7, 7, 0}};
        for (int cancel = 0; cancel < 3; cancel++) {
            x.rule(4, cancel);
            for (int i = 0; i < bars.length; i++) {
                due("CANCEL " + cancel + ", BAR " + bars[i], x.keySigns(bars[i]), want[cancel][i]);
            }
        }
        for (int bar : new int[] {-1, 20, LEAST, MOST}) due("BAR " + bar, x.keySigns(bar), OUTSIDE);
        SignDots y = new SignDots();
        y.key(0, -3);
        y.key(1, 6);
        y.rule(4, 1);
        // From b e a to f c g d a e: b alone is altered no more.
        due("from flats to sharps", y.keySigns(1), 7);
        SignDots z = new SignDots();
        z.key(1, 3);
        z.key(2, 0);
        int[] ended = {0, 3, 3};
        for (int cancel = 0; cancel < 3; cancel++) {
            z.rule(4, cancel);
            due("from 3 to 0", z.keySigns(2), ended[cancel]);
            due("from 0 to 3", z.keySigns(1), 3);
            due("0 at BAR 0", z.keySigns(0), 0);
        }
        for (int k = -7; k <= 7; k++) {
            z.key(0, k);
            due("KEY " + k + " at BAR 0", z.keySigns(0), Math.abs(k));
        }
    }

    private static void keySign() {
        int[] sharps = {3, 0, 4, 1, 5, 2, 6};
        int[] flats = {6, 2, 5, 1, 4, 0, 3};
        int[][] sharpPlaces = {{8, 5, 9, 6, 3, 7, 4}, {6, 3, 7, 4, 1, 5, 2}, {7, 4, 8, 5, 2, 6, 3}};
        int[][] flatPlaces = {{4, 7, 3, 6, 2, 5, 1}, {2, 5, 1, 4, 0, 3, -1}, {3, 6, 2, 5, 1, 4, 0}};
        SignDots x = new SignDots();
        x.key(0, 7);
        x.key(3, -7);
        x.key(6, 0);
        x.key(7, 1);
        x.key(8, -1);
        for (int kind = 0; kind < 3; kind++) {
            x.clef(0, kind);
            for (int i = 0; i < 7; i++) {
                due("letter of sharp " + i, x.keySign(0, i, 0), sharps[i]);
                due("ALTER of sharp " + i, x.keySign(0, i, 1), 12);
                due("CLEF " + kind + ", place of sharp " + i, x.keySign(0, i, 2), 100 + sharpPlaces[kind][i]);
                due("letter of flat " + i, x.keySign(3, i, 0), flats[i]);
                due("ALTER of flat " + i, x.keySign(3, i, 1), 8);
                due("CLEF " + kind + ", place of flat " + i, x.keySign(3, i, 2), 100 + flatPlaces[kind][i]);
            }
            due("the place of one sharp", x.keySign(7, 0, 2), 100 + sharpPlaces[kind][0]);
            due("the place of one flat", x.keySign(8, 0, 2), 100 + flatPlaces[kind][0]);
        }
    }

    private static void naturals() {
        SignDots x = new SignDots();
        x.key(0, 4);
        x.key(1, 2);
        x.key(2, -1);
        x.key(3, 0);
        x.rule(4, 1);
        int[][] first = {{4, 10, 109}, {1, 10, 106}, {3, 12, 108}, {0, 12, 105}};
        int[][] second = {{3, 10, 108}, {0, 10, 105}, {6, 8, 104}};
        for (int what = 0; what < 3; what++) {
            for (int i = 0; i < 4; i++) due("from 4 to 2, sign " + i, x.keySign(1, i, what), first[i][what]);
            for (int i = 0; i < 3; i++) due("from 2 to -1, sign " + i, x.keySign(2, i, what), second[i][what]);
        }
        due("a natural where the flat was", x.keySign(3, 0, 2), 104);
        due("a natural", x.keySign(3, 0, 1), 10);
        x.rule(4, 2);
        due("on the same side, its own first", x.keySign(1, 0, 0), 3);
        due("on the other side, naturals first", x.keySign(2, 0, 1), 10);
        due("to 0, naturals", x.keySign(3, 0, 1), 10);
        x.clef(2, 1);
        due("with the CLEF of the BAR", x.keySign(2, 0, 2), 106);
    }

    private static void keySignRefused() {
        SignDots x = new SignDots();
        x.key(0, 2);
        for (int bar : new int[] {-1, 20, LEAST, MOST}) {
            due("BAR " + bar, x.keySign(bar, 0, 0), OUTSIDE);
            due("BAR " + bar + ", sign 9", x.keySign(bar, 9, 0), OUTSIDE);
        }
        for (int what : new int[] {-1, 3, LEAST, MOST}) {
            due("what " + what, x.keySign(0, 0, what), OUTSIDE);
            due("what " + what + ", sign 9", x.keySign(0, 9, what), OUTSIDE);
        }
        for (int i : new int[] {-1, 2, LEAST, MOST}) due("sign " + i, x.keySign(0, i, 0), UNKNOWN);
        due("where none are shown", x.keySign(1, 0, 0), UNKNOWN);
    }
}
