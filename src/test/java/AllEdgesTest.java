import java.util.function.Supplier;
import java.util.function.ToLongFunction;

/** Promises 24 to 27 at their edges: a test for each sentence that names one. */
public final class AllEdgesTest {
    private static final int NONE = Edges.NONE, UNKNOWN = Edges.UNKNOWN, OUTSIDE = Edges.OUTSIDE, STATE = Edges.STATE;
    private static final int LEAST = Edges.LEAST, MOST = Edges.MOST;

    public static void main(String[] args) throws IllegalAccessException {
        Edges.run(AllEdgesTest.class, 24, 27);
    }

    private static void due(String what, long got, long want) {
        Edges.due(what, got, want);
    }

    private static void dueWithoutChange(Supplier<HarpPedals> maker, String what, ToLongFunction<HarpPedals> call, long want) {
        Edges.dueWithoutChange(maker, what, call, want);
    }

    // ---- 24: "An IMAGE is kept (one; the latest): how many CHORDS. STATE: no PART."

    private static void promise24_noPart() {
        dueWithoutChange(HarpPedals::new, "image()", HarpPedals::image, STATE);
        HarpPedals x = new HarpPedals();
        x.image();
        due("none was kept", x.restore(), STATE);
        Edges.write(x, "1111111;ca");
        x.part();
        due("nor is one then", x.restore(), STATE);
    }

    private static void promise24_fromOneToEightChords() {
        for (int many = 1; many <= 8; many++) {
            HarpPedals x = Edges.read(Edges.chords(many));
            due("image()", x.image(), many);
            due("restore()", x.restore(), many);
        }
    }

    private static void promise24_nothingElseChanges() {
        HarpPedals x = Edges.read("1111111;cc,hb");
        x.see(0, 0, true);
        long before = x.digest();
        x.image();
        due("digest()", x.digest(), before);
        due("restore()", x.restore(), 2);
        due("digest() then", x.digest(), before);
    }

    private static void promise24_theLatestIsKept() {
        HarpPedals x = Edges.read("1111111;ca,cb,cc");
        x.image();
        x.take(0);
        due("image()", x.image(), 2);
        x.take(0);
        due("restore()", x.restore(), 2);
        due("the first chord", x.chord(0, 1), 2);
        x.take(0);
        due("the earlier one is gone", x.restore(), 2);
    }

    private static void promise24_itKeepsWhatIsLaterChanged() {
        HarpPedals x = Edges.full();
        x.blank();
        x.image();
        long before = x.digest();
        x.press(0, 2);
        x.change(1, 0);
        x.swap(0, 7);
        x.shift(5);
        x.take(2);
        x.forget();
        x.see(0, 0, false);
        due("restore()", x.restore(), 8);
        due("digest()", x.digest(), before);
    }

    // ---- 25: "It goes on from the IMAGE: how many CHORDS. STATE: none was kept, or there is
    // another PART since."

    private static void promise25_noneWasKept() {
        dueWithoutChange(HarpPedals::new, "without a part", HarpPedals::restore, STATE);
        dueWithoutChange(Edges.part("1111111;ca"), "with a part", HarpPedals::restore, STATE);
        dueWithoutChange(Edges.part(Edges.chords(8)), "of eight chords", HarpPedals::restore, STATE);
    }

    private static void promise25_anotherPartSince() {
        Supplier<HarpPedals> readAgain = () -> {
            HarpPedals x = Edges.read("1111111;ca,cb");
            x.see(0, 0, false);
            x.image();
            Edges.write(x, "1111111;ca,cb");
            x.part();
            x.see(1, 0, true);
            return x;
        };
        dueWithoutChange(readAgain, "restore()", HarpPedals::restore, STATE);
        HarpPedals x = readAgain.get();
        due("its own image", x.image(), 2);
        due("goes on", x.restore(), 2);
        due("with what was seen of it", x.chord(1, 4), 29);
    }

    private static void promise25_aPageThatIsNoneIsNoOtherPart() {
        HarpPedals x = Edges.read("1111111;ca,cb");
        x.image();
        Edges.write(x, "1111111;ca,");
        due("part()", x.part(), STATE);
        due("restore()", x.restore(), 2);
        due("the page stays", x.count(4), 11);
    }

    private static void promise25_theBeginTheChordsAndWhatIsSeen() {
        HarpPedals x = Edges.read("0120120;ca,gbd,hbdfh");
        x.see(1, 0, false);
        x.image();
        x.press(0, 2);
        x.change(0, 4);
        x.shift(3);
        x.put(3, 0, 1);
        x.see(1, 1, false);
        due("restore()", x.restore(), 3);
        due("begins", x.count(1), 120120);
        int[] kinds = {0, 1, 2};
        int[] tones = {1, 10, 170};
        for (int chord = 0; chord < 3; chord++) {
            due("kind of " + chord, x.chord(chord, 0), kinds[chord]);
            due("tones of " + chord, x.chord(chord, 1), tones[chord]);
        }
        due("chord 3", x.chord(3, 0), UNKNOWN);
        due("seen", x.count(3), 1);
        due("sorts of 1", x.chord(1, 4), 2);
    }

    private static void promise25_nothingSeenIsKeptToo() {
        HarpPedals x = Edges.read("1111111;ca");
        x.image();
        x.see(0, 0, false);
        x.restore();
        due("seen", x.count(3), 0);
        due("sorts", x.chord(0, 4), 31);
    }

    private static void promise25_sixSeenAndEightChords() {
        HarpPedals x = Edges.full();
        for (int i = 0; i < 7; i++) {
            x.take(0);
        }
        x.forget();
        due("restore()", x.restore(), 8);
        due("seen", x.count(3), 6);
        due("a seventh", x.see(0, 0, true), Edges.FULL);
        due("a ninth chord", x.put(0, 0, 1), Edges.FULL);
    }

    private static void promise25_eachOfSixSeen() {
        HarpPedals x = Edges.read(Edges.chords(8));
        for (int chord = 1; chord <= 6; chord++) {
            x.see(chord, 1, false);
        }
        x.image();
        x.forget();
        for (int i = 0; i < 6; i++) {
            x.see(7, 0, true);
        }
        x.restore();
        for (int chord = 0; chord < 8; chord++) {
            due("sorts of " + chord, x.chord(chord, 4), chord == 0 || chord == 7 ? 31 : 20);
        }
    }

    private static void promise25_eachOfEightChords() {
        HarpPedals x = Edges.read("1111111;ca,gb,hc,qd,be,cf,gg,hh");
        x.image();
        for (int chord = 0; chord < 8; chord++) {
            x.change(chord, 4 - chord % 5);
        }
        x.shift(6);
        x.restore();
        for (int chord = 0; chord < 8; chord++) {
            due("kind of " + chord, x.chord(chord, 0), chord % 5);
            due("tones of " + chord, x.chord(chord, 1), 1 << chord);
        }
    }

    private static void promise25_againAndAgain() {
        HarpPedals x = Edges.read("1111111;ca,cb");
        x.image();
        for (int i = 0; i < 3; i++) {
            x.press(0, i);
            x.take(0);
            x.see(0, 0, true);
            due("restore()", x.restore(), 2);
            due("begins", x.count(1), 1111111);
            due("seen", x.count(3), 0);
            due("tones", x.chord(0, 1), 1);
        }
    }

    private static void promise25_withoutAChangeSince() {
        dueWithoutChange(() -> {
            HarpPedals x = Edges.read("1111111;ca,cb");
            x.see(0, 0, true);
            x.image();
            return x;
        }, "restore()", HarpPedals::restore, 2);
    }

    private static void promise25_thePageAndTheCountsGoOn() {
        HarpPedals x = Edges.read("1111111;ca");
        x.image();
        Edges.write(x, "22");
        x.leastShift();
        x.restore();
        due("letters", x.count(4), 2);
        due("read", x.count(5), 1);
        due("asked", x.count(6), 1);
    }

    private static void promise25_thePlanGoesByIt() {
        HarpPedals x = Edges.read("1111111;cb");
        x.image();
        x.change(0, 4);
        due("fewest", x.plan(0), NONE);
        due("setting", x.setting(0), NONE);
        x.restore();
        due("fewest then", x.plan(0), 1);
        due("setting then", x.setting(0), 111111);
        due("reach then", x.reach(0) > 0 ? 1 : 0, 1);
        due("free then", x.free(), 0);
    }

    // ---- 26: "How many: 0 CHORDS, 1 the SETTING with which it BEGINS (NONE: no PART), 2 different
    // TONES of all CHORDS, 3 what is SEEN, 4 letters of THE PAGE, 5 how often a PART was read,
    // 6 how often LEAST SHIFT was asked for. OUTSIDE."

    private static void promise26_whatFrom0To6() {
        int[] want = {3, 111111, 3, 2, 10, 1, 1};
        for (int what = 0; what < 7; what++) {
            int asked = what;
            dueWithoutChange(Edges::middling, "count(" + what + ")", x -> x.count(asked), want[what]);
        }
        int[] outside = {-1, 7, 8, LEAST, MOST};
        for (int what : outside) {
            dueWithoutChange(HarpPedals::new, "count(" + what + ")", x -> x.count(what), OUTSIDE);
            dueWithoutChange(Edges::middling, "count(" + what + ")", x -> x.count(what), OUTSIDE);
        }
    }

    private static void promise26_chordsFrom0To8() {
        due("none", new HarpPedals().count(0), 0);
        for (int many = 1; many <= 8; many++) {
            due("chords", Edges.read(Edges.chords(many)).count(0), many);
        }
    }

    private static void promise26_theBeginOrNone() {
        due("no part", new HarpPedals().count(1), NONE);
        due("a page that is not yet read", Edges.written("1111111;ca").count(1), NONE);
        due("all flat", Edges.read("0000000;ca").count(1), 0);
        due("all sharp", Edges.read("2222222;ca").count(1), 2222222);
    }

    private static void promise26_differentTonesFrom0To12() {
        due("no part", new HarpPedals().count(2), 0);
        due("one", Edges.read("1111111;cl").count(2), 1);
        due("one, in two chords", Edges.read("1111111;cl,gl").count(2), 1);
        due("five", Edges.read("1111111;cabc,cbcd,cl").count(2), 5);
        due("all", Edges.read("1111111;cabcd,cefgh,cijkl").count(2), 12);
    }

    private static void promise26_differentTonesOfATakenChordAreGone() {
        HarpPedals x = Edges.read("1111111;ca,cb");
        x.take(1);
        due("tones", x.count(2), 1);
    }

    private static void promise26_seenFrom0To6() {
        HarpPedals x = Edges.read("1111111;ca");
        for (int i = 0; i <= 6; i++) {
            due("seen", x.count(3), i);
            x.see(0, 0, true);
        }
        due("no more", x.count(3), 6);
    }

    private static void promise26_lettersFrom0To56() {
        HarpPedals x = new HarpPedals();
        for (int i = 0; i <= 56; i++) {
            due("letters", x.count(4), i);
            x.letter(1);
        }
        due("no more", x.count(4), 56);
    }

    private static void promise26_howOftenAPartWasRead() {
        HarpPedals x = new HarpPedals();
        for (int i = 0; i < 9; i++) {
            due("read", x.count(5), i);
            due("one that is none", x.part(), STATE);
            due("read then", x.count(5), i);
            Edges.write(x, "1111111;ca");
            x.part();
        }
        x.image();
        x.restore();
        due("restored is not read", x.count(5), 9);
    }

    private static void promise26_howOftenLeastShiftWasAskedFor() {
        HarpPedals x = Edges.read("1111111;ca");
        for (int i = 0; i <= 5; i++) {
            due("asked", x.count(6), i);
            x.leastShift();
        }
        x.leastShift();
        due("no more", x.count(6), 5);
        x.shifted(3);
        due("shifted() is not counted", x.count(6), 5);
    }

    // ---- 27: "h is 1423, then for each of these numbers, in order, 31 times h, and it (as longs,
    // wrapping): of each CHORD what chord() tells for 0 to 5, setting(), reach(); with a PART plan()
    // for 0 to 2; letters of THE PAGE; what count() tells for 0 to 6."

    private static long folded(long h, long... numbers) {
        for (long number : numbers) {
            h = 31 * h + number;
        }
        return h;
    }

    private static void promise27_withoutAPart() {
        dueWithoutChange(HarpPedals::new, "digest()", HarpPedals::digest, folded(1423, 0, NONE, 0, 0, 0, 0, 0));
    }

    private static void promise27_withLettersAlone() {
        HarpPedals x = new HarpPedals();
        x.letter(1);
        x.letter(126);
        x.letter(49);
        due("digest()", x.digest(), folded(1423, 1, 126, 49, 0, NONE, 0, 0, 3, 0, 0));
    }

    private static void promise27_withAFullPage() {
        HarpPedals x = new HarpPedals();
        long h = 1423;
        for (int code = 71; code <= 126; code++) {
            x.letter(code);
            h = folded(h, code);
        }
        due("digest()", x.digest(), folded(h, 0, NONE, 0, 0, 56, 0, 0));
    }

    private static void promise27_lettersOfABlankPageAreGone() {
        HarpPedals x = Edges.written("123");
        x.blank();
        due("digest()", x.digest(), folded(1423, 0, NONE, 0, 0, 0, 0, 0));
    }

    private static void promise27_withOneChord() {
        // tone 2: kind, tones, settings, least, sorts, ask; setting, reach; plan; counts
        long h = folded(1423, 0, 4, 729, 1000000, 31, 1, 1111111, 45);
        h = folded(h, 0, 1, NONE);
        due("digest()", Edges.read("1111111;cc").digest(), folded(h, 1, 1111111, 1, 0, 0, 1, 0));
    }

    private static void promise27_withoutAPlan() {
        long h = folded(1423, 1, 1, 0, NONE, 31, 1, NONE, 0);
        h = folded(h, NONE, 0, 0);
        due("digest()", Edges.read("0000000;ga").digest(), folded(h, 1, 0, 1, 0, 0, 1, 0));
    }

    private static void promise27_withEightChordsAndAllPlacesTaken() {
        HarpPedals x = Edges.full();
        long h = 1423;
        for (int chord = 0; chord < 8; chord++) {
            for (int what = 0; what < 6; what++) {
                h = folded(h, x.chord(chord, what));
            }
            h = folded(h, x.setting(chord), x.reach(chord));
        }
        h = folded(h, x.plan(0), x.plan(1), x.plan(2));
        for (int letter = 0; letter < 56; letter++) {
            h = folded(h, '1');
        }
        for (int what = 0; what < 7; what++) {
            h = folded(h, x.count(what));
        }
        dueWithoutChange(Edges::full, "digest()", HarpPedals::digest, h);
    }

    private static void promise27_theSameAgain() {
        HarpPedals x = Edges.middling();
        due("digest()", x.digest(), x.digest());
        due("of a like one", x.digest(), Edges.middling().digest());
    }
}
