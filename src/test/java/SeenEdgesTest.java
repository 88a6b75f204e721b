import java.util.function.Supplier;
import java.util.function.ToLongFunction;

/** Promises 21 to 23 at their edges: a test for each sentence that names one. */
public final class SeenEdgesTest {
    private static final int UNKNOWN = Edges.UNKNOWN, OUTSIDE = Edges.OUTSIDE, STATE = Edges.STATE, FULL = Edges.FULL;
    private static final int NONE = Edges.NONE, LEAST = Edges.LEAST, MOST = Edges.MOST;
    private static final int[][] TONES =
        {{1, 2, 3}, {11, 0, 1}, {10, 11, 0}, {3, 4, 5}, {4, 5, 6}, {6, 7, 8}, {8, 9, 10}};

    public static void main(String[] args) throws IllegalAccessException {
        Edges.run(SeenEdgesTest.class, 21, 23);
    }

    private static void due(String what, long got, long want) {
        Edges.due(what, got, want);
    }

    private static void dueWithoutChange(Supplier<HarpPedals> maker, String what, ToLongFunction<HarpPedals> call, long want) {
        Edges.dueWithoutChange(maker, what, call, want);
    }

    // ---- 21: "It is SEEN: how much is. UNKNOWN; OUTSIDE: what (0 to 3); FULL." (6 at most)

    private static void promise21_chordsFrom0ToTheLast() {
        due("see(0, ..)", Edges.read(Edges.chords(8)).see(0, 0, true), 1);
        due("see(7, ..)", Edges.read(Edges.chords(8)).see(7, 0, true), 1);
        int[] unknown = {-1, 3, LEAST, MOST};
        for (int chord : unknown) {
            dueWithoutChange(Edges::middling, "see(" + chord + ", 0, true)", x -> x.see(chord, 0, true), UNKNOWN);
        }
        dueWithoutChange(Edges.part(Edges.chords(8)), "see(8, 0, true)", x -> x.see(8, 0, true), UNKNOWN);
        dueWithoutChange(HarpPedals::new, "see(0, 0, true)", x -> x.see(0, 0, true), UNKNOWN);
    }

    private static void promise21_whatFrom0To3() {
        for (int what = 0; what < 4; what++) {
            due("could " + what, Edges.read("1111111;ca").see(0, what, true), 1);
            due("could not " + what, Edges.read("1111111;ca").see(0, what, false), 1);
        }
        int[] outside = {-1, 4, LEAST, MOST};
        for (int what : outside) {
            dueWithoutChange(Edges::middling, "see(0, " + what + ", true)", x -> x.see(0, what, true), OUTSIDE);
            dueWithoutChange(Edges::middling, "see(0, " + what + ", false)", x -> x.see(0, what, false), OUTSIDE);
        }
    }

    private static void promise21_theSixthIsTheLast() {
        HarpPedals x = Edges.read(Edges.chords(3));
        for (int i = 1; i <= 6; i++) {
            due("thing " + i, x.see(i % 3, i % 4, true), i);
            due("seen", x.count(3), i);
        }
        due("thing 7", x.see(0, 0, true), FULL);
        due("thing 8", x.see(2, 3, false), FULL);
        due("seen then", x.count(3), 6);
    }

    private static void promise21_aRefusedOneIsNotSeen() {
        dueWithoutChange(Edges::full, "see(0, 0, false)", x -> x.see(0, 0, false), FULL);
        dueWithoutChange(Edges::full, "see(7, 3, true)", x -> x.see(7, 3, true), FULL);
    }

    private static void promise21_theSixAreOfAllChordsTogether() {
        HarpPedals x = Edges.read(Edges.chords(8));
        for (int chord = 0; chord < 6; chord++) {
            due("chord " + chord, x.see(chord, 0, true), chord + 1);
        }
        due("chord 6", x.see(6, 0, true), FULL);
        due("sorts of 5", x.chord(5, 4), 29);
        due("sorts of 6", x.chord(6, 4), 31);
    }

    private static void promise21_theSixthCountsForItsSorts() {
        HarpPedals x = Edges.read("1111111;ca,cb");
        for (int i = 0; i < 5; i++) {
            x.see(0, 0, true);
        }
        x.see(1, 1, false);
        due("sorts", x.chord(1, 4), 20);
        due("ask", x.chord(1, 5), 2);
    }

    private static void promise21_theFirstOfSeveralRefusals() {
        dueWithoutChange(Edges::full, "UNKNOWN, OUTSIDE, FULL", x -> x.see(8, 4, true), UNKNOWN);
        dueWithoutChange(Edges::full, "UNKNOWN, FULL", x -> x.see(-1, 0, true), UNKNOWN);
        dueWithoutChange(Edges::full, "OUTSIDE, FULL", x -> x.see(0, 4, true), OUTSIDE);
        dueWithoutChange(Edges::full, "OUTSIDE, FULL", x -> x.see(7, -1, false), OUTSIDE);
        dueWithoutChange(Edges::middling, "UNKNOWN, OUTSIDE", x -> x.see(3, 4, true), UNKNOWN);
        dueWithoutChange(HarpPedals::new, "UNKNOWN, OUTSIDE", x -> x.see(0, 4, true), UNKNOWN);
    }

    private static void promise21_theSameTwiceAndItsContrary() {
        HarpPedals x = Edges.read("1111111;ca");
        due("once", x.see(0, 0, true), 1);
        due("twice", x.see(0, 0, true), 2);
        due("sorts", x.chord(0, 4), 29);
        due("its contrary", x.see(0, 0, false), 3);
        due("sorts then", x.chord(0, 4), 0);
        due("ask then", x.chord(0, 5), NONE);
    }

    private static void promise21_whatIsSeenOfATakenChordTakesAPlace() {
        HarpPedals x = Edges.read("1111111;ca,cb");
        for (int i = 0; i < 5; i++) {
            x.see(1, 0, true);
        }
        x.take(1);
        due("the sixth", x.see(0, 0, true), 6);
        due("a seventh", x.see(0, 0, true), FULL);
        due("of the one taken out", x.see(1, 0, true), UNKNOWN);
    }

    private static void promise21_theKindAndThePlanStay() {
        HarpPedals x = Edges.read("1111111;cb");
        x.see(0, 1, false);
        due("kind", x.chord(0, 0), 0);
        due("fewest", x.plan(0), 1);
    }

    // ---- 22: "Nothing is SEEN any more: how much was."

    private static void promise22_nothingWasSeen() {
        dueWithoutChange(HarpPedals::new, "without a part", HarpPedals::forget, 0);
        dueWithoutChange(Edges.part("1111111;ca"), "with a part", HarpPedals::forget, 0);
    }

    private static void promise22_oneThingWasSeen() {
        HarpPedals x = Edges.read("1111111;ca");
        x.see(0, 0, true);
        due("forget()", x.forget(), 1);
        due("again", x.forget(), 0);
    }

    private static void promise22_sixThingsWereSeen() {
        HarpPedals x = Edges.full();
        due("forget()", x.forget(), 6);
        due("seen", x.count(3), 0);
        for (int chord = 0; chord < 8; chord++) {
            due("sorts of " + chord, x.chord(chord, 4), 31);
            due("ask of " + chord, x.chord(chord, 5), 1);
        }
        for (int i = 1; i <= 6; i++) {
            due("there is room again", x.see(0, 0, true), i);
        }
        due("for six", x.see(0, 0, true), FULL);
    }

    private static void promise22_whatIsSeenOfATakenChordIsForgottenToo() {
        HarpPedals x = Edges.read("1111111;ca,cb");
        x.see(1, 1, false);
        x.take(1);
        due("forget()", x.forget(), 1);
        x.put(1, 0, 1);
        due("sorts", x.chord(1, 4), 31);
    }

    private static void promise22_theImageKeepsIt() {
        HarpPedals x = Edges.full();
        x.forget();
        x.restore();
        due("seen", x.count(3), 6);
    }

    private static void promise22_allElseStays() {
        HarpPedals x = Edges.full();
        x.forget();
        due("chords", x.count(0), 8);
        due("letters", x.count(4), 56);
        due("asked", x.count(6), 5);
    }

    // ---- 23: "DRAWN: what = 0 how many are played, 1 how many MOVES, 2 the SEED then.
    // OUTSIDE: times (1 to 30), seed (0 at least), what; STATE: no PART."

    private static void promise23_timesFrom1To30() {
        dueDrawn("1111111", 1, 7);
        dueDrawn("1111111", 30, 7);
        int[] outside = {0, -1, 31, 32, LEAST, MOST};
        for (int times : outside) {
            dueWithoutChange(Edges::middling, "times " + times, x -> x.drawn(times, 7, 0), OUTSIDE);
            dueWithoutChange(Edges::full, "times " + times, x -> x.drawn(times, 7, 2), OUTSIDE);
        }
    }

    private static void promise23_seedsFrom0() {
        dueDrawn("1111111", 3, 0);
        dueDrawn("1111111", 3, 1);
        dueDrawn("1111111", 3, MOST);
        dueDrawn("1111111", 30, MOST - 1);
        int[] outside = {-1, -2, LEAST, LEAST + 1};
        for (int seed : outside) {
            dueWithoutChange(Edges::middling, "seed " + seed, x -> x.drawn(1, seed, 0), OUTSIDE);
        }
    }

    private static void promise23_whatFrom0To2() {
        int[] outside = {-1, 3, LEAST, MOST};
        for (int what : outside) {
            dueWithoutChange(Edges::middling, "what " + what, x -> x.drawn(1, 0, what), OUTSIDE);
        }
        // seed 0: 12345, so tone 0; then 1406932606, by 65536 it is 21468, of 11 its rest is 7: tone 8
        Supplier<HarpPedals> maker = Edges.part("1111111;ca");
        dueWithoutChange(maker, "played", x -> x.drawn(1, 0, 0), 1);
        dueWithoutChange(maker, "moves: A flat", x -> x.drawn(1, 0, 1), 1);
        dueWithoutChange(maker, "the seed then", x -> x.drawn(1, 0, 2), 1406932606);
    }

    private static void promise23_noPart() {
        dueWithoutChange(HarpPedals::new, "drawn(1, 0, 0)", x -> x.drawn(1, 0, 0), STATE);
        dueWithoutChange(HarpPedals::new, "drawn(30, MOST, 2)", x -> x.drawn(30, MOST, 2), STATE);
    }

    private static void promise23_outsideIsToldAheadOfState() {
        dueWithoutChange(HarpPedals::new, "times", x -> x.drawn(0, 0, 0), OUTSIDE);
        dueWithoutChange(HarpPedals::new, "times", x -> x.drawn(31, 0, 0), OUTSIDE);
        dueWithoutChange(HarpPedals::new, "seed", x -> x.drawn(1, -1, 0), OUTSIDE);
        dueWithoutChange(HarpPedals::new, "what", x -> x.drawn(1, 0, 3), OUTSIDE);
        dueWithoutChange(HarpPedals::new, "what", x -> x.drawn(1, 0, -1), OUTSIDE);
    }

    private static void promise23_aChordThatCannotBePlayedIsLeftOut() {
        // seed 9: tones 0 and 2; all flat, D and one of C and B would have to be moved, all of the left foot
        HarpPedals x = Edges.read("0000000;ca");
        due("played", x.drawn(1, 9, 0), 0);
        due("moves", x.drawn(1, 9, 1), 0);
        due("the seed then", x.drawn(1, 9, 2), 731087919);
        due("with C natural", Edges.read("0100000;ca").drawn(1, 9, 0), 1);
        due("with C natural, moves", Edges.read("0100000;ca").drawn(1, 9, 1), 1);
        dueDrawn("0000000", 30, 9);
    }

    private static void promise23_tonesOf12Round() {
        // seed 34: tone 2, and 10 more: tone 0
        HarpPedals x = Edges.read("1111111;ca");
        due("played", x.drawn(1, 34, 0), 1);
        due("moves", x.drawn(1, 34, 1), 0);
        due("the seed then", x.drawn(1, 34, 2), 762615920);
        due("all flat it is left out", Edges.read("0000000;ca").drawn(1, 34, 0), 0);
    }

    private static void promise23_ofLikeOnesTheLeastNumber() {
        for (int seed = 100; seed < 140; seed++) {
            dueDrawn("1111111", 30, seed);
            dueDrawn("0120210", 17, seed);
        }
    }

    private static void promise23_fromTheSettingWithWhichThePartBegins() {
        HarpPedals x = Edges.read("0000000;ca");
        x.press(1, 1);
        due("played", x.drawn(1, 9, 0), 1);
        x.press(1, 0);
        due("played then", x.drawn(1, 9, 0), 0);
    }

    private static void promise23_thePartsOwnChordsAreNotPlayed() {
        String[] texts = {"1111111;ca", "1111111;bb", "1111111;hacef,ga", "1111111;qk,bb,hl"};
        for (String text : texts) {
            HarpPedals x = Edges.read(text);
            due("played of " + text, x.drawn(12, 5, 0), played("1111111", 12, 5)[0]);
            due("moves of " + text, x.drawn(12, 5, 1), played("1111111", 12, 5)[1]);
        }
    }

    private static void promise23_itChangesNothing() {
        long[] want = played("0111111", 30, 3);
        for (int what = 0; what < 3; what++) {
            int asked = what;
            dueWithoutChange(Edges::middling, "drawn(30, 3, " + what + ")", x -> x.drawn(30, 3, asked), want[what]);
        }
        HarpPedals x = Edges.read("1111111;ca");
        due("once", x.drawn(2, 5, 2), played("1111111", 2, 5)[2]);
        due("and again", x.drawn(2, 5, 2), played("1111111", 2, 5)[2]);
    }

    private static void dueDrawn(String begin, int times, int seed) {
        HarpPedals x = Edges.read(begin + ";ca");
        long[] want = played(begin, times, seed);
        for (int what = 0; what < 3; what++) {
            due("drawn(" + times + ", " + seed + ", " + what + ") from " + begin, x.drawn(times, seed, what), want[what]);
        }
    }

    /** By the document's words: how many are played, how many moves, the seed then. */
    private static long[] played(String begin, int times, long seed) {
        String setting = begin;
        long many = 0;
        long moves = 0;
        for (int i = 0; i < times; i++) {
            seed = (1103515245L * seed + 12345) % (1L << 31);
            int one = (int) (seed / 65536 % 12);
            seed = (1103515245L * seed + 12345) % (1L << 31);
            int other = (int) ((one + seed / 65536 % 11 + 1) % 12);
            String best = null;
            for (int index = 0; index < 2187; index++) {
                String next = String.format("%7s", Integer.toString(index, 3)).replace(' ', '0');
                boolean can = has(next, one) && has(next, other) && moved(setting, next) >= 0;
                if (can && (best == null || moved(setting, next) < moved(setting, best))) {
                    best = next;
                }
            }
            if (best != null) {
                many++;
                moves += moved(setting, best);
                setting = best;
            }
        }
        return new long[] {many, moves, seed};
    }

    private static boolean has(String setting, int tone) {
        for (int pedal = 0; pedal < 7; pedal++) {
            if (TONES[pedal][setting.charAt(pedal) - '0'] == tone) {
                return true;
            }
        }
        return false;
    }

    /** How many pedals are moved; -1, if one foot would have to move two. */
    private static int moved(String from, String to) {
        int left = 0;
        int right = 0;
        for (int pedal = 0; pedal < 7; pedal++) {
            if (from.charAt(pedal) != to.charAt(pedal)) {
                left += pedal < 3 ? 1 : 0;
                right += pedal < 3 ? 0 : 1;
            }
        }
        return left > 1 || right > 1 ? -1 : left + right;
    }
}
