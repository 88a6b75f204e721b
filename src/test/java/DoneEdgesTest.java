import java.util.function.Supplier;
import java.util.function.ToLongFunction;

/** Promises 9 to 14 at their edges: a test for each sentence that names one. */
public final class DoneEdgesTest {
    private static final int NONE = Edges.NONE, UNKNOWN = Edges.UNKNOWN, OUTSIDE = Edges.OUTSIDE;
    private static final int STATE = Edges.STATE, FULL = Edges.FULL;
    private static final int LEAST = Edges.LEAST, MOST = Edges.MOST;

    public static void main(String[] args) throws IllegalAccessException {
        Edges.run(DoneEdgesTest.class, 9, 14);
    }

    private static void due(String what, long got, long want) {
        Edges.due(what, got, want);
    }

    private static void dueWithoutChange(Supplier<HarpPedals> maker, String what, ToLongFunction<HarpPedals> call, long want) {
        Edges.dueWithoutChange(maker, what, call, want);
    }

    /** It is refused like that in the middle of a run and with all places taken. */
    private static void dueRefused(String what, ToLongFunction<HarpPedals> call, long want) {
        dueWithoutChange(Edges::middling, what, call, want);
        dueWithoutChange(Edges::full, what + " with all places taken", call, want);
    }

    private static void dueTones(HarpPedals x, int... tones) {
        due("chords", x.count(0), tones.length);
        for (int chord = 0; chord < tones.length; chord++) {
            due("tones of " + chord, x.chord(chord, 1), tones[chord]);
        }
        due("tones behind the last", x.chord(tones.length, 1), UNKNOWN);
    }

    // ---- 9: "A PEDAL is in a POSITION when the PART BEGINS: the SETTING then.
    // UNKNOWN: pedal (0 to 6); OUTSIDE: position (0 to 2); STATE: no PART."

    private static void promise09_pedalsFrom0To6() {
        due("press(0, 2)", Edges.read("1111111;ca").press(0, 2), 2111111);
        due("press(6, 2)", Edges.read("1111111;ca").press(6, 2), 1111112);
        int[] unknown = {-1, 7, LEAST, MOST};
        for (int pedal : unknown) {
            dueRefused("press(" + pedal + ", 2)", x -> x.press(pedal, 2), UNKNOWN);
        }
    }

    private static void promise09_positionsFrom0To2() {
        due("press(3, 0)", Edges.read("1111111;ca").press(3, 0), 1110111);
        due("press(3, 2)", Edges.read("1111111;ca").press(3, 2), 1112111);
        int[] outside = {-1, 3, LEAST, MOST};
        for (int position : outside) {
            dueRefused("press(0, " + position + ")", x -> x.press(0, position), OUTSIDE);
            dueRefused("press(6, " + position + ")", x -> x.press(6, position), OUTSIDE);
        }
    }

    private static void promise09_noPart() {
        dueWithoutChange(HarpPedals::new, "press(0, 0)", x -> x.press(0, 0), STATE);
        dueWithoutChange(HarpPedals::new, "press(6, 2)", x -> x.press(6, 2), STATE);
        dueWithoutChange(() -> Edges.written("1111111;ca"), "a page not yet read", x -> x.press(0, 0), STATE);
    }

    private static void promise09_theFirstOfSeveralRefusals() {
        dueWithoutChange(HarpPedals::new, "UNKNOWN, OUTSIDE, STATE", x -> x.press(7, 3), UNKNOWN);
        dueWithoutChange(HarpPedals::new, "UNKNOWN, STATE", x -> x.press(-1, 0), UNKNOWN);
        dueWithoutChange(HarpPedals::new, "OUTSIDE, STATE", x -> x.press(0, 3), OUTSIDE);
        dueRefused("UNKNOWN, OUTSIDE", x -> x.press(7, -1), UNKNOWN);
    }

    private static void promise09_eachPedalHasItsDigit() {
        int digit = 1000000;
        for (int pedal = 0; pedal < 7; pedal++) {
            for (int position = 0; position < 3; position++) {
                HarpPedals x = Edges.read("1111111;ca");
                int want = 1111111 + (position - 1) * digit;
                due("press(" + pedal + ", " + position + ")", x.press(pedal, position), want);
                due("count(1)", x.count(1), want);
            }
            digit /= 10;
        }
    }

    private static void promise09_theLeastSettingIs0TheGreatestAllSharp() {
        HarpPedals x = Edges.read("1000000;ca");
        due("all flat", x.press(0, 0), 0);
        due("begins", x.count(1), 0);
        HarpPedals y = Edges.read("2222221;ca");
        due("all sharp", y.press(6, 2), 2222222);
        due("that", y.count(1), 2222222);
    }

    private static void promise09_thePositionItIsInAlready() {
        dueWithoutChange(Edges::middling, "press(0, 0)", x -> x.press(0, 0), 111111);
    }

    private static void promise09_whatIsToldGoesByIt() {
        HarpPedals x = Edges.read("1111111;bb");
        due("fewest", x.plan(0), NONE);
        due("setting", x.setting(0), NONE);
        x.press(0, 0);
        due("fewest then", x.plan(0), 0);
        due("setting then", x.setting(0), 111111);
        due("reach then", x.reach(0), 1);
        due("shifted then", x.shifted(1), NONE);
    }

    // ---- 10: "A CHORD is put in at a place (it is that number then): how many CHORDS.
    // UNKNOWN: place (0 to as many as there are); OUTSIDE: kind (0 to 4), tones (as bits, one to
    // four of 0 to 11); STATE: no PART; FULL: there are eight."

    private static void promise10_placesFrom0ToBehindTheLast() {
        HarpPedals first = Edges.read("1111111;cb,cc");
        due("put(0, ..)", first.put(0, 0, 1), 3);
        dueTones(first, 1, 2, 4);
        HarpPedals last = Edges.read("1111111;cb,cc");
        due("put(2, ..)", last.put(2, 0, 1), 3);
        dueTones(last, 2, 4, 1);
        HarpPedals between = Edges.read("1111111;cb,cc");
        due("put(1, ..)", between.put(1, 0, 1), 3);
        dueTones(between, 2, 1, 4);
        int[] unknown = {-1, 3, 4, LEAST, MOST};
        for (int place : unknown) {
            dueWithoutChange(Edges.part("1111111;cb,cc"), "place " + place, x -> x.put(place, 0, 1), UNKNOWN);
        }
        dueWithoutChange(Edges::middling, "place 4", x -> x.put(4, 0, 1), UNKNOWN);
    }

    private static void promise10_theKindComesToItsPlace() {
        HarpPedals x = Edges.read("1111111;gb,hc");
        x.put(1, 4, 8);
        due("kind of 0", x.chord(0, 0), 1);
        due("kind of 1", x.chord(1, 0), 4);
        due("kind of 2", x.chord(2, 0), 2);
    }

    private static void promise10_kindsFrom0To4() {
        for (int kind = 0; kind < 5; kind++) {
            HarpPedals x = Edges.read("1111111;ca");
            due("kind " + kind, x.put(1, kind, 1), 2);
            due("it is", x.chord(1, 0), kind);
        }
        int[] outside = {-1, 5, LEAST, MOST};
        for (int kind : outside) {
            dueRefused("kind " + kind, x -> x.put(0, kind, 1), OUTSIDE);
        }
    }

    private static void promise10_oneToneAtLeast() {
        due("tone 0 alone", Edges.read("1111111;ca").put(0, 0, 1), 2);
        due("tone 11 alone", Edges.read("1111111;ca").put(0, 0, 2048), 2);
        dueRefused("no tone", x -> x.put(0, 0, 0), OUTSIDE);
    }

    private static void promise10_fourTonesAtMost() {
        int[] four = {15, 3840, 1 | 8 | 64 | 2048};
        for (int tones : four) {
            HarpPedals x = Edges.read("1111111;ca");
            due("tones " + tones, x.put(1, 0, tones), 2);
            due("they are", x.chord(1, 1), tones);
        }
        int[] more = {31, 3968, 1 | 8 | 64 | 512 | 2048, 4095};
        for (int tones : more) {
            dueRefused("tones " + tones, x -> x.put(0, 0, tones), OUTSIDE);
        }
    }

    private static void promise10_tonesFrom0To11() {
        int[] outside = {4096, 4097, 8192, 1 << 16, 1 << 30, MOST, LEAST, LEAST + 1, -1, -4096};
        for (int tones : outside) {
            dueRefused("tones " + tones, x -> x.put(0, 0, tones), OUTSIDE);
        }
    }

    private static void promise10_noPart() {
        dueWithoutChange(HarpPedals::new, "put(0, 0, 1)", x -> x.put(0, 0, 1), STATE);
        dueWithoutChange(HarpPedals::new, "put(0, 4, 2048)", x -> x.put(0, 4, 2048), STATE);
    }

    private static void promise10_theEighthIsTheLast() {
        HarpPedals x = Edges.read("1111111;ca");
        for (int many = 2; many <= 8; many++) {
            due("chord " + many, x.put(many - 1, 0, 1 << many), many);
        }
        dueTones(x, 1, 4, 8, 16, 32, 64, 128, 256);
        due("a ninth", x.put(8, 0, 1), FULL);
        dueTones(x, 1, 4, 8, 16, 32, 64, 128, 256);
    }

    private static void promise10_fullAtEachPlace() {
        for (int place = 0; place <= 8; place++) {
            int at = place;
            dueWithoutChange(Edges::full, "put(" + place + ", 0, 1)", x -> x.put(at, 0, 1), FULL);
        }
        dueWithoutChange(Edges::full, "put(9, 0, 1)", x -> x.put(9, 0, 1), UNKNOWN);
    }

    private static void promise10_theFirstOfSeveralRefusals() {
        dueWithoutChange(HarpPedals::new, "UNKNOWN, OUTSIDE, STATE", x -> x.put(1, 5, 0), UNKNOWN);
        dueWithoutChange(HarpPedals::new, "UNKNOWN, STATE", x -> x.put(1, 0, 1), UNKNOWN);
        dueWithoutChange(HarpPedals::new, "UNKNOWN, STATE", x -> x.put(-1, 0, 1), UNKNOWN);
        dueWithoutChange(HarpPedals::new, "OUTSIDE (kind), STATE", x -> x.put(0, 5, 1), OUTSIDE);
        dueWithoutChange(HarpPedals::new, "OUTSIDE (tones), STATE", x -> x.put(0, 0, 0), OUTSIDE);
        dueWithoutChange(Edges::full, "UNKNOWN, OUTSIDE, FULL", x -> x.put(9, 5, 0), UNKNOWN);
        dueWithoutChange(Edges::full, "UNKNOWN, FULL", x -> x.put(-1, 0, 1), UNKNOWN);
        dueWithoutChange(Edges::full, "OUTSIDE (kind), FULL", x -> x.put(8, -1, 1), OUTSIDE);
        dueWithoutChange(Edges::full, "OUTSIDE (tones), FULL", x -> x.put(8, 0, 4096), OUTSIDE);
    }

    private static void promise10_whatIsSeenStaysWithTheNumbers() {
        HarpPedals x = Edges.read("1111111;ca,cb");
        x.see(0, 1, false);
        x.put(0, 0, 4);
        due("sorts of 0", x.chord(0, 4), 20);
        due("sorts of 1", x.chord(1, 4), 31);
    }

    private static void promise10_thePlanGoesByIt() {
        HarpPedals x = Edges.read("1111111;ca");
        due("fewest", x.plan(0), 0);
        due("free", x.free(), 20000);
        x.put(1, 0, 2);
        due("fewest then", x.plan(0), 1);
        due("reach of it", x.reach(1) > 0 ? 1 : 0, 1);
        x.put(2, 1, 1);
        due("stuck then", x.plan(2), 2);
        due("free then", x.free(), NONE);
    }

    // ---- 11: "A CHORD is taken out: how many are left (what is SEEN stays with the numbers).
    // UNKNOWN; STATE: it is the only one."

    private static void promise11_chordsFrom0ToTheLast() {
        HarpPedals first = Edges.read(Edges.chords(3));
        due("take(0)", first.take(0), 2);
        dueTones(first, 2, 4);
        HarpPedals last = Edges.read(Edges.chords(3));
        due("take(2)", last.take(2), 2);
        dueTones(last, 1, 2);
        HarpPedals between = Edges.read(Edges.chords(3));
        due("take(1)", between.take(1), 2);
        dueTones(between, 1, 4);
        int[] unknown = {-1, 3, LEAST, MOST};
        for (int chord : unknown) {
            dueWithoutChange(Edges::middling, "take(" + chord + ")", x -> x.take(chord), UNKNOWN);
        }
        dueWithoutChange(Edges::full, "take(8)", x -> x.take(8), UNKNOWN);
        dueWithoutChange(HarpPedals::new, "take(0)", x -> x.take(0), UNKNOWN);
    }

    private static void promise11_theLastOfEight() {
        HarpPedals x = Edges.read(Edges.chords(8));
        due("take(7)", x.take(7), 7);
        due("take(7) again", x.take(7), UNKNOWN);
        due("take(0)", x.take(0), 6);
        dueTones(x, 2, 4, 8, 16, 32, 64);
    }

    private static void promise11_theKindGoesWithIt() {
        HarpPedals x = Edges.read("1111111;ga,hb,qc");
        x.take(0);
        due("kind of 0", x.chord(0, 0), 2);
        due("kind of 1", x.chord(1, 0), 3);
    }

    private static void promise11_theOnlyOneStays() {
        dueWithoutChange(Edges.part("1111111;ca"), "take(0)", x -> x.take(0), STATE);
        HarpPedals x = Edges.read(Edges.chords(8));
        for (int left = 7; left >= 1; left--) {
            due("left", x.take(0), left);
        }
        due("the only one", x.take(0), STATE);
        dueTones(x, 128);
    }

    private static void promise11_unknownIsToldAheadOfState() {
        dueWithoutChange(Edges.part("1111111;ca"), "take(1)", x -> x.take(1), UNKNOWN);
        dueWithoutChange(Edges.part("1111111;ca"), "take(-1)", x -> x.take(-1), UNKNOWN);
    }

    private static void promise11_whatIsSeenStaysWithTheNumbers() {
        HarpPedals x = Edges.read(Edges.chords(3));
        x.see(0, 0, false);
        x.see(1, 1, false);
        x.see(2, 2, false);
        x.take(0);
        due("seen", x.count(3), 3);
        due("sorts of 0", x.chord(0, 4), 2);
        due("sorts of 1", x.chord(1, 4), 20);
        due("of 2 there is none", x.chord(2, 4), UNKNOWN);
        x.put(2, 0, 1);
        due("sorts of a new 2", x.chord(2, 4), 24);
    }

    private static void promise11_thenThereIsRoomForAnEighth() {
        HarpPedals x = Edges.read(Edges.chords(8));
        due("put", x.put(8, 0, 1), FULL);
        x.take(3);
        due("put then", x.put(7, 0, 1), 8);
        due("and no more", x.put(7, 0, 1), FULL);
    }

    private static void promise11_thePlanGoesByIt() {
        HarpPedals x = Edges.read("1111111;cc,ga");
        due("stuck", x.plan(2), 1);
        due("setting", x.setting(0), NONE);
        x.take(1);
        due("stuck then", x.plan(2), NONE);
        due("setting then", x.setting(0), 1111111);
    }

    // ---- 12: "Two CHORDS change their places: FEWEST then (NONE). UNKNOWN: one, other, or they
    // are the same."

    private static void promise12_chordsFrom0ToTheLast() {
        HarpPedals x = Edges.read("1111111;ca,gb,hc");
        due("swap(0, 2)", x.swap(0, 2), NONE);
        dueTones(x, 4, 2, 1);
        due("kind of 0", x.chord(0, 0), 2);
        due("kind of 1", x.chord(1, 0), 1);
        due("kind of 2", x.chord(2, 0), 0);
        HarpPedals y = Edges.read(Edges.chords(8));
        y.swap(7, 0);
        dueTones(y, 128, 2, 4, 8, 16, 32, 64, 1);
        int[] unknown = {-1, 3, LEAST, MOST};
        for (int chord : unknown) {
            dueWithoutChange(Edges::middling, "swap(" + chord + ", 0)", z -> z.swap(chord, 0), UNKNOWN);
            dueWithoutChange(Edges::middling, "swap(0, " + chord + ")", z -> z.swap(0, chord), UNKNOWN);
        }
        dueWithoutChange(Edges::full, "swap(8, 0)", z -> z.swap(8, 0), UNKNOWN);
        dueWithoutChange(Edges::full, "swap(0, 8)", z -> z.swap(0, 8), UNKNOWN);
    }

    private static void promise12_neighbours() {
        HarpPedals x = Edges.read(Edges.chords(4));
        x.swap(1, 2);
        dueTones(x, 1, 4, 2, 8);
        x.swap(2, 1);
        dueTones(x, 1, 2, 4, 8);
    }

    private static void promise12_theSameIsUnknown() {
        for (int chord = 0; chord < 3; chord++) {
            int same = chord;
            dueWithoutChange(Edges::middling, "swap(" + chord + ", " + chord + ")", x -> x.swap(same, same), UNKNOWN);
        }
        dueWithoutChange(Edges.part("1111111;ca"), "swap(0, 0) of one", x -> x.swap(0, 0), UNKNOWN);
        dueWithoutChange(HarpPedals::new, "swap(0, 0) of none", x -> x.swap(0, 0), UNKNOWN);
        dueWithoutChange(HarpPedals::new, "swap(0, 1) of none", x -> x.swap(0, 1), UNKNOWN);
    }

    private static void promise12_fewestThen() {
        // the bound one first: nothing is to be moved for it; then one move
        HarpPedals x = Edges.read("1111111;cb,ba");
        due("D flat, C natural stays", x.plan(0), 1);
        due("swap(0, 1)", x.swap(0, 1), 1);
        due("swapped back", x.swap(0, 1), 1);
        HarpPedals y = Edges.read("1111111;cb,bc");
        due("C sharp", y.plan(0), 1);
        HarpPedals z = Edges.read("1111111;cc,bb");
        due("C sharp ahead of D natural", z.plan(0), 1);
        due("bound first: none", z.swap(0, 1), NONE);
        due("setting", z.setting(0), NONE);
        due("back", z.swap(1, 0), 1);
        due("setting then", z.setting(0), 1211111);
    }

    private static void promise12_fewestOf0() {
        due("swap(0, 1)", Edges.read("1111111;ca,cc").swap(0, 1), 0);
    }

    private static void promise12_whatIsSeenStaysWithTheNumbers() {
        HarpPedals x = Edges.read("1111111;ca,cb");
        x.see(0, 1, false);
        x.swap(0, 1);
        due("sorts of 0", x.chord(0, 4), 20);
        due("sorts of 1", x.chord(1, 4), 31);
    }

    // ---- 13: "A CHORD is of another KIND: of which it was. UNKNOWN; OUTSIDE: kind (0 to 4)."

    private static void promise13_chordsFrom0ToTheLast() {
        HarpPedals x = Edges.read("1111111;ga,hb,qc");
        due("change(0, 0)", x.change(0, 0), 1);
        due("change(2, 4)", x.change(2, 4), 3);
        due("kind of 0", x.chord(0, 0), 0);
        due("kind of 1", x.chord(1, 0), 2);
        due("kind of 2", x.chord(2, 0), 4);
        dueTones(x, 1, 2, 4);
        due("the eighth", Edges.read(Edges.chords(8)).change(7, 1), 0);
        int[] unknown = {-1, 3, LEAST, MOST};
        for (int chord : unknown) {
            dueWithoutChange(Edges::middling, "change(" + chord + ", 0)", y -> y.change(chord, 0), UNKNOWN);
        }
        dueWithoutChange(Edges::full, "change(8, 0)", y -> y.change(8, 0), UNKNOWN);
        dueWithoutChange(HarpPedals::new, "change(0, 0)", y -> y.change(0, 0), UNKNOWN);
    }

    private static void promise13_kindsFrom0To4() {
        HarpPedals x = Edges.read("1111111;ba");
        int[] was = {4, 0, 1, 2, 3};
        for (int kind = 0; kind < 5; kind++) {
            due("change(0, " + kind + ")", x.change(0, kind), was[kind]);
            due("it is", x.chord(0, 0), kind);
        }
        int[] outside = {-1, 5, LEAST, MOST};
        for (int kind : outside) {
            dueRefused("change(0, " + kind + ")", y -> y.change(0, kind), OUTSIDE);
        }
    }

    private static void promise13_theKindItIsOfAlready() {
        dueWithoutChange(Edges::middling, "change(1, 2)", x -> x.change(1, 2), 2);
        dueWithoutChange(Edges::middling, "change(0, 0)", x -> x.change(0, 0), 0);
    }

    private static void promise13_unknownIsToldAheadOfOutside() {
        dueWithoutChange(HarpPedals::new, "change(0, 5)", x -> x.change(0, 5), UNKNOWN);
        dueWithoutChange(Edges::middling, "change(3, 5)", x -> x.change(3, 5), UNKNOWN);
        dueWithoutChange(Edges::middling, "change(-1, -1)", x -> x.change(-1, -1), UNKNOWN);
    }

    private static void promise13_thePlanGoesByIt() {
        HarpPedals x = Edges.read("1111111;cb");
        due("fewest", x.plan(0), 1);
        due("free", x.free(), 0);
        x.change(0, 4);
        due("bound", x.plan(0), NONE);
        due("free of it", x.free(), 0);
        x.change(0, 1);
        due("free of a glissando", x.free(), NONE);
        x.change(0, 3);
        due("quick", x.plan(0), 1);
        due("setting", x.setting(0), 111111);
    }

    private static void promise13_whatIsSeenStays() {
        HarpPedals x = Edges.read("1111111;ca");
        x.see(0, 1, false);
        x.change(0, 1);
        due("sorts", x.chord(0, 4), 20);
    }

    // ---- 14: "All TONES of all CHORDS are so much more (of 12 round): FEWEST then (NONE).
    // OUTSIDE: by (0 to 11); STATE: no PART."

    private static void promise14_byFrom0To11() {
        HarpPedals least = Edges.read("1111111;ca,cl");
        due("shift(0)", least.shift(0), 0);
        dueTones(least, 1, 2048);
        HarpPedals most = Edges.read("1111111;ca,cl");
        due("shift(11)", most.shift(11), 1);
        dueTones(most, 2048, 1024);
        int[] outside = {-1, 12, 13, 24, -12, LEAST, MOST};
        for (int by : outside) {
            dueRefused("shift(" + by + ")", x -> x.shift(by), OUTSIDE);
        }
    }

    private static void promise14_by0ChangesNothing() {
        dueWithoutChange(Edges.part("1111111;cc,ha,qb"), "shift(0)", x -> x.shift(0), 1);
    }

    private static void promise14_of12Round() {
        for (int tone = 0; tone < 12; tone++) {
            for (int by = 0; by < 12; by++) {
                HarpPedals x = Edges.read("1111111;c" + (char) ('a' + tone));
                x.shift(by);
                due("tone " + tone + " by " + by, x.chord(0, 1), 1 << (tone + by) % 12);
            }
        }
    }

    private static void promise14_allTonesOfAllChords() {
        HarpPedals x = Edges.read("1111111;cabkl,gl,hfg,qa,bl,cb,ck,cal");
        x.shift(1);
        dueTones(x, 1 << 1 | 1 << 2 | 1 << 11 | 1, 1, 1 << 6 | 1 << 7, 2, 1, 4, 2048, 3);
    }

    private static void promise14_noPart() {
        dueWithoutChange(HarpPedals::new, "shift(0)", x -> x.shift(0), STATE);
        dueWithoutChange(HarpPedals::new, "shift(11)", x -> x.shift(11), STATE);
    }

    private static void promise14_outsideIsToldAheadOfState() {
        dueWithoutChange(HarpPedals::new, "shift(12)", x -> x.shift(12), OUTSIDE);
        dueWithoutChange(HarpPedals::new, "shift(-1)", x -> x.shift(-1), OUTSIDE);
    }

    private static void promise14_fewestThenOrNone() {
        HarpPedals x = Edges.read("1111111;bc");
        due("to tone 3", x.shift(1), NONE);
        due("setting", x.setting(0), NONE);
        due("to tone 4", x.shift(1), 0);
        due("setting then", x.setting(0), 1111111);
        HarpPedals y = Edges.read("1111111;cc");
        due("to tone 3, by a move", y.shift(1), 1);
    }

    private static void promise14_theBeginAndWhatIsSeenStay() {
        HarpPedals x = Edges.read("0120120;ca");
        x.see(0, 0, false);
        x.shift(5);
        due("begins", x.count(1), 120120);
        due("sorts", x.chord(0, 4), 2);
    }
}
