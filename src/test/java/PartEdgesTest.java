import java.util.function.Supplier;
import java.util.function.ToLongFunction;

/** Promises 1 to 8 at their edges: a test for each sentence that names one. */
public final class PartEdgesTest {
    private static final int NONE = Edges.NONE, UNKNOWN = Edges.UNKNOWN, OUTSIDE = Edges.OUTSIDE;
    private static final int STATE = Edges.STATE, FULL = Edges.FULL;
    private static final int LEAST = Edges.LEAST, MOST = Edges.MOST;
    private static final String KIND_LETTERS = "cghqb";
    private static final String EIGHT_LONGEST = "0120120;" + "habcd,".repeat(7) + "bijkl";

    public static void main(String[] args) throws IllegalAccessException {
        Edges.run(PartEdgesTest.class, 1, 8);
    }

    private static void due(String what, long got, long want) {
        Edges.due(what, got, want);
    }

    private static void dueWithoutChange(Supplier<HarpPedals> maker, String what, ToLongFunction<HarpPedals> call, long want) {
        Edges.dueWithoutChange(maker, what, call, want);
    }

    // ---- 1: "No PART."

    private static void promise01_noChordIsKnown() {
        int[] chords = {0, 1, 7, -1, LEAST, MOST};
        for (int chord : chords) {
            dueWithoutChange(HarpPedals::new, "chord(" + chord + ", 0)", x -> x.chord(chord, 0), UNKNOWN);
            dueWithoutChange(HarpPedals::new, "as(" + chord + ", 0)", x -> x.as(chord, 0), UNKNOWN);
            dueWithoutChange(HarpPedals::new, "take(" + chord + ")", x -> x.take(chord), UNKNOWN);
            dueWithoutChange(HarpPedals::new, "swap(" + chord + ", 1)", x -> x.swap(chord, 1), UNKNOWN);
            dueWithoutChange(HarpPedals::new, "change(" + chord + ", 0)", x -> x.change(chord, 0), UNKNOWN);
            dueWithoutChange(HarpPedals::new, "setting(" + chord + ")", x -> x.setting(chord), UNKNOWN);
            dueWithoutChange(HarpPedals::new, "reach(" + chord + ")", x -> x.reach(chord), UNKNOWN);
            dueWithoutChange(HarpPedals::new, "see(" + chord + ", 0, true)", x -> x.see(chord, 0, true), UNKNOWN);
        }
    }

    private static void promise01_whatNeedsAPartIsRefused() {
        dueWithoutChange(HarpPedals::new, "press", x -> x.press(0, 0), STATE);
        dueWithoutChange(HarpPedals::new, "put", x -> x.put(0, 0, 1), STATE);
        dueWithoutChange(HarpPedals::new, "shift", x -> x.shift(0), STATE);
        dueWithoutChange(HarpPedals::new, "plan", x -> x.plan(0), STATE);
        dueWithoutChange(HarpPedals::new, "shifted", x -> x.shifted(0), STATE);
        dueWithoutChange(HarpPedals::new, "leastShift", HarpPedals::leastShift, STATE);
        dueWithoutChange(HarpPedals::new, "free", HarpPedals::free, STATE);
        dueWithoutChange(HarpPedals::new, "drawn", x -> x.drawn(1, 0, 0), STATE);
        dueWithoutChange(HarpPedals::new, "image", HarpPedals::image, STATE);
        dueWithoutChange(HarpPedals::new, "restore", HarpPedals::restore, STATE);
        dueWithoutChange(HarpPedals::new, "part", HarpPedals::part, STATE);
    }

    private static void promise01_allCountsAreNone() {
        int[] want = {0, NONE, 0, 0, 0, 0, 0};
        for (int what = 0; what < 7; what++) {
            due("count(" + what + ")", new HarpPedals().count(what), want[what]);
        }
    }

    private static void promise01_nothingIsOnThePageOrSeen() {
        due("fault()", new HarpPedals().fault(), 0);
        due("blank()", new HarpPedals().blank(), 0);
        due("forget()", new HarpPedals().forget(), 0);
    }

    private static void promise01_anotherObjectHasNoPartOfIt() {
        HarpPedals one = Edges.full();
        HarpPedals other = new HarpPedals();
        due("chords of the other", other.count(0), 0);
        due("its image", other.restore(), STATE);
        due("asked of it", other.count(6), 0);
        due("read by it", other.count(5), 0);
        due("its letters", other.letter(49), 1);
        due("letters of the one", one.count(4), 56);
    }

    // ---- 2: "A letter comes behind THE PAGE, by its code: how many THE PAGE has.
    // OUTSIDE: code (1 to 126); FULL: above 56."

    private static void promise02_theLeastCodeIs1() {
        due("letter(1)", new HarpPedals().letter(1), 1);
        int[] less = {0, -1, -2, -126, LEAST};
        for (int code : less) {
            dueWithoutChange(HarpPedals::new, "letter(" + code + ")", x -> x.letter(code), OUTSIDE);
            dueWithoutChange(Edges::middling, "letter(" + code + ")", x -> x.letter(code), OUTSIDE);
        }
    }

    private static void promise02_theGreatestCodeIs126() {
        due("letter(126)", new HarpPedals().letter(126), 1);
        int[] more = {127, 128, 255, 256 + 49, 65536 + 49, MOST};
        for (int code : more) {
            dueWithoutChange(HarpPedals::new, "letter(" + code + ")", x -> x.letter(code), OUTSIDE);
            dueWithoutChange(Edges::middling, "letter(" + code + ")", x -> x.letter(code), OUTSIDE);
        }
    }

    private static void promise02_allCodesBetweenAreTaken() {
        for (int code = 1; code <= 126; code++) {
            due("letter(" + code + ")", new HarpPedals().letter(code), 1);
        }
    }

    private static void promise02_the56thLetterIsTheLast() {
        HarpPedals x = new HarpPedals();
        for (int i = 1; i <= 56; i++) {
            due("letter " + i, x.letter(49), i);
        }
        due("letter 57", x.letter(49), FULL);
        due("letter 58", x.letter(50), FULL);
        due("letters then", x.count(4), 56);
    }

    private static void promise02_aFullPageRefusedChangesNothing() {
        dueWithoutChange(() -> Edges.written("1".repeat(56)), "letter 57", x -> x.letter(49), FULL);
        dueWithoutChange(Edges::full, "letter 57", x -> x.letter(126), FULL);
    }

    private static void promise02_outsideIsToldAheadOfFull() {
        dueWithoutChange(Edges::full, "letter(0)", x -> x.letter(0), OUTSIDE);
        dueWithoutChange(Edges::full, "letter(127)", x -> x.letter(127), OUTSIDE);
    }

    private static void promise02_itComesBehindTheOthers() {
        due("a wrong letter behind two", Edges.written("11x").fault(), 2);
        due("a wrong letter ahead of two", Edges.written("x11").fault(), 0);
    }

    private static void promise02_aFullPageTakesLettersOnceItIsBlank() {
        HarpPedals x = Edges.written("1".repeat(56));
        x.blank();
        for (int i = 1; i <= 56; i++) {
            due("letter " + i, x.letter(49), i);
        }
        due("letter 57", x.letter(49), FULL);
    }

    private static void promise02_thePartStaysAsItIs() {
        HarpPedals x = Edges.read("1111111;cb");
        x.letter(50);
        due("chords", x.count(0), 1);
        due("tones", x.chord(0, 1), 2);
        due("begins", x.count(1), 1111111);
    }

    // ---- 3: "THE PAGE is empty: how many letters it had."

    private static void promise03_anEmptyPageHadNone() {
        dueWithoutChange(HarpPedals::new, "blank()", HarpPedals::blank, 0);
        dueWithoutChange(Edges.part("1111111;ca"), "blank() behind part()", HarpPedals::blank, 0);
    }

    private static void promise03_oneLetter() {
        HarpPedals x = Edges.written("1");
        due("blank()", x.blank(), 1);
        due("again", x.blank(), 0);
    }

    private static void promise03_aFullPageHad56() {
        HarpPedals x = Edges.written("1".repeat(56));
        due("blank()", x.blank(), 56);
        due("letters then", x.count(4), 0);
        due("fault then", x.fault(), 0);
        due("the next letter is the first", x.letter(51), 1);
        due("and nothing is ahead of it", x.fault(), 0);
    }

    private static void promise03_allElseStays() {
        HarpPedals x = Edges.full();
        x.blank();
        due("chords", x.count(0), 8);
        due("seen", x.count(3), 6);
        due("read", x.count(5), 1);
        due("asked", x.count(6), 5);
        due("the image", x.restore(), 8);
    }

    // ---- 4: "The place (from 0) of the first letter of THE PAGE that no PART has there, behind
    // those ahead of it; how many letters it has, if there is none."

    private static void dueFault(String text, int want) {
        due("fault() of " + text, Edges.written(text).fault(), want);
    }

    /** Behind the text just these letters may stand, whatever their codes are. */
    private static void dueNext(String text, String letters) {
        for (int code = 1; code <= 126; code++) {
            int place = text.length();
            HarpPedals x = Edges.written(text);
            x.letter(code);
            due("fault() of " + text + " and code " + code, x.fault(), letters.indexOf(code) >= 0 ? place + 1 : place);
        }
    }

    private static void promise04_anEmptyPageHasNone() {
        dueFault("", 0);
    }

    private static void promise04_sevenDigitsFrom0To2() {
        String digits = "0212012";
        for (int place = 0; place < 7; place++) {
            dueNext(digits.substring(0, place), "012");
        }
    }

    private static void promise04_theEighthIsASemicolon() {
        dueNext("0120120", ";");
    }

    private static void promise04_behindItComesAKind() {
        dueNext("0120120;", KIND_LETTERS);
    }

    private static void promise04_aChordHasOneToneAtLeast() {
        for (char kind : KIND_LETTERS.toCharArray()) {
            dueNext("0120120;" + kind, "abcdefghijkl");
        }
    }

    private static void promise04_eachToneIsGreaterThanTheOneAheadOfIt() {
        String tones = "abcdefghijkl";
        for (int tone = 0; tone < 12; tone++) {
            dueNext("0120120;c" + tones.charAt(tone), tones.substring(tone + 1) + ",");
        }
    }

    private static void promise04_thatIsTheOneAheadNotTheFirst() {
        dueNext("0120120;cbf", "ghijkl,");
        dueNext("0120120;cbfh", "ijkl,");
    }

    private static void promise04_aChordHasFourTonesAtMost() {
        dueNext("0120120;cabc", "defghijkl,");
        dueNext("0120120;cabcd", ",");
    }

    private static void promise04_behindACommaComesAKind() {
        dueNext("0120120;ca,", KIND_LETTERS);
        dueNext("0120120;cabcd,", KIND_LETTERS);
    }

    private static void promise04_aSecondChordBeginsWithAnyTone() {
        dueNext("0120120;cijkl,q", "abcdefghijkl");
        dueNext("0120120;cijkl,qa", "bcdefghijkl,");
    }

    private static void promise04_thereAreEightChordsAtMost() {
        dueNext("0120120;" + "ca,".repeat(6) + "ca", "bcdefghijkl,");
        dueNext("0120120;" + "ca,".repeat(7), KIND_LETTERS);
        dueNext("0120120;" + "ca,".repeat(7) + "ca", "bcdefghijkl");
        dueNext("0120120;" + "ca,".repeat(7) + "cl", "");
    }

    private static void promise04_theLongestPartHas55Letters() {
        due("letters", EIGHT_LONGEST.length(), 55);
        dueFault(EIGHT_LONGEST, 55);
        dueNext(EIGHT_LONGEST, "");
    }

    private static void promise04_theFirstOfSeveral() {
        dueFault("3xxxxxx", 0);
        dueFault("0x20x20;", 1);
        dueFault("0120120;caa,", 10);
        dueFault("x".repeat(56), 0);
    }

    private static void promise04_aPageThatGoesOnHasNone() {
        String text = "0120120;cabl,gb,hl";
        for (int size = 0; size <= text.length(); size++) {
            dueFault(text.substring(0, size), size);
        }
    }

    private static void promise04_itChangesNothing() {
        dueWithoutChange(() -> Edges.written("0x"), "fault()", HarpPedals::fault, 1);
        dueWithoutChange(Edges::middling, "fault()", HarpPedals::fault, 10);
        dueWithoutChange(Edges::full, "fault()", HarpPedals::fault, 7);
    }

    // ---- 5: "THE PAGE is read as THE PART (another one is gone, with all that was): how many
    // CHORDS; THE PAGE is empty then. STATE: it is none."

    private static void duePart(String text, int want) {
        due("part() of " + text, Edges.written(text).part(), want);
    }

    private static void dueNoPart(String text) {
        dueWithoutChange(() -> Edges.written(text), "part() of " + text, HarpPedals::part, STATE);
        Supplier<HarpPedals> behindAnother = () -> {
            HarpPedals x = Edges.middling();
            x.blank();
            Edges.write(x, text);
            return x;
        };
        dueWithoutChange(behindAnother, "part() behind another of " + text, HarpPedals::part, STATE);
    }

    private static void promise05_anEmptyPageIsNone() {
        dueNoPart("");
    }

    private static void promise05_aPageThatEndsTooEarlyIsNone() {
        String text = "0120120;cab,gl";
        for (int size = 0; size < text.length(); size++) {
            if (size == 10 || size == 11) {
                duePart(text.substring(0, size), 1);
            } else {
                dueNoPart(text.substring(0, size));
            }
        }
        duePart(text, 2);
    }

    private static void promise05_sevenDigitsNotSixNotEight() {
        duePart("1111111;ca", 1);
        dueNoPart("111111;ca");
        dueNoPart("11111111;ca");
    }

    private static void promise05_digitsFrom0To2() {
        duePart("0000000;ca", 1);
        duePart("2222222;ca", 1);
        dueNoPart("3222222;ca");
        dueNoPart("2222223;ca");
        dueNoPart("/000000;ca");
    }

    private static void promise05_oneChordAtLeast() {
        duePart("1111111;ca", 1);
        dueNoPart("1111111;");
    }

    private static void promise05_eightChordsAtMost() {
        duePart(Edges.chords(8), 8);
        dueNoPart(Edges.chords(9));
        dueNoPart(Edges.chords(8) + ",");
    }

    private static void promise05_oneToneAtLeast() {
        duePart("1111111;gl", 1);
        dueNoPart("1111111;g");
        dueNoPart("1111111;ca,g");
        dueNoPart("1111111;g,ca");
    }

    private static void promise05_fourTonesAtMost() {
        duePart("1111111;cabcd", 1);
        duePart("1111111;cijkl", 1);
        dueNoPart("1111111;cabcde");
    }

    private static void promise05_tonesFromAToL() {
        duePart("1111111;cal", 1);
        dueNoPart("1111111;cam");
        dueNoPart("1111111;c`");
    }

    private static void promise05_noToneTwiceNorALesserOneBehind() {
        duePart("1111111;cab", 1);
        dueNoPart("1111111;caa");
        dueNoPart("1111111;cba");
    }

    private static void promise05_noLetterBehindIt() {
        dueNoPart("1111111;ca;");
        dueNoPart("1111111;ca ");
        dueNoPart("1111111;ca1");
    }

    private static void promise05_theLongestOneIsRead() {
        duePart(EIGHT_LONGEST, 8);
        dueNoPart(EIGHT_LONGEST + ",");
        dueNoPart(EIGHT_LONGEST + "l");
    }

    private static void promise05_eachKindByItsLetter() {
        for (int kind = 0; kind < 5; kind++) {
            due("kind", Edges.read("1111111;" + KIND_LETTERS.charAt(kind) + "a").chord(0, 0), kind);
        }
    }

    private static void promise05_eachToneByItsLetter() {
        for (int tone = 0; tone < 12; tone++) {
            due("tones", Edges.read("1111111;c" + (char) ('a' + tone)).chord(0, 1), 1 << tone);
        }
    }

    private static void promise05_theSettingByItsDigits() {
        due("all flat", Edges.read("0000000;ca").count(1), 0);
        due("all sharp", Edges.read("2222222;ca").count(1), 2222222);
        due("pedal 0 first", Edges.read("2000001;ca").count(1), 2000001);
        due("pedal 6 last", Edges.read("0000002;ca").count(1), 2);
    }

    private static void promise05_thePageIsEmptyThen() {
        HarpPedals x = Edges.read(EIGHT_LONGEST);
        due("letters", x.count(4), 0);
        due("read again", x.part(), STATE);
        for (int i = 1; i <= 56; i++) {
            due("letter " + i, x.letter(49), i);
        }
        due("letter 57", x.letter(49), FULL);
    }

    private static void promise05_aRefusedPageStays() {
        HarpPedals x = Edges.written("1111111;ca,");
        x.part();
        due("letters", x.count(4), 11);
        due("read", x.count(5), 0);
        Edges.write(x, "cb");
        due("made whole it is read", x.part(), 2);
    }

    private static void promise05_anotherOneIsGone() {
        HarpPedals x = Edges.full();
        x.blank();
        Edges.write(x, "2222222;gl");
        due("part()", x.part(), 1);
        due("chords", x.count(0), 1);
        due("chord 1", x.chord(1, 0), UNKNOWN);
        due("kind", x.chord(0, 0), 1);
        due("tones", x.chord(0, 1), 2048);
        due("different tones", x.count(2), 1);
        due("begins", x.count(1), 2222222);
    }

    private static void promise05_whatWasSeenIsGone() {
        HarpPedals x = Edges.read("1111111;ca");
        for (int i = 0; i < 6; i++) {
            x.see(0, 1, false);
        }
        Edges.write(x, "1111111;ca");
        x.part();
        due("seen", x.count(3), 0);
        due("sorts", x.chord(0, 4), 31);
        due("there is room", x.see(0, 0, true), 1);
    }

    private static void promise05_theImageIsGone() {
        HarpPedals x = Edges.read("1111111;ca");
        x.image();
        Edges.write(x, "1111111;ca");
        x.part();
        due("restore()", x.restore(), STATE);
    }

    private static void promise05_thePlanIsTheNewOnes() {
        HarpPedals x = Edges.read("1111111;cb");
        due("fewest", x.plan(0), 1);
        due("setting", x.setting(0), 111111);
        due("free", x.free(), 0);
        Edges.write(x, "1111111;cc");
        x.part();
        due("fewest of the other", x.plan(0), 0);
        due("setting of the other", x.setting(0), 1111111);
        due("free of the other", x.free(), 1000000);
    }

    private static void promise05_countsOfAllPartsGoOn() {
        HarpPedals x = Edges.read("1111111;ca");
        x.leastShift();
        Edges.write(x, "1111111;ca");
        x.part();
        due("read", x.count(5), 2);
        due("asked", x.count(6), 1);
    }

    // ---- 6: "Of a CHORD: what = 0 KIND, 1 TONES, as bits, 2 how many SETTINGS FIT, 3 the least of
    // these (NONE), 4 SORTS, as bits, 5 ASK (NONE). UNKNOWN; OUTSIDE."

    private static void promise06_chordsFrom0ToTheLast() {
        for (int many = 1; many <= 8; many++) {
            String text = Edges.chords(many);
            int last = many - 1;
            due("the last", Edges.read(text).chord(last, 1), 1 << last);
            due("the first", Edges.read(text).chord(0, 1), 1);
            int behind = many;
            dueWithoutChange(Edges.part(text), "behind the last", x -> x.chord(behind, 1), UNKNOWN);
            dueWithoutChange(Edges.part(text), "chord(-1, 1)", x -> x.chord(-1, 1), UNKNOWN);
        }
        dueWithoutChange(Edges::full, "chord(8, 0)", x -> x.chord(8, 0), UNKNOWN);
        dueWithoutChange(Edges::full, "chord(LEAST, 0)", x -> x.chord(LEAST, 0), UNKNOWN);
        dueWithoutChange(Edges::full, "chord(MOST, 0)", x -> x.chord(MOST, 0), UNKNOWN);
    }

    private static void promise06_aChordTakenOutIsUnknown() {
        HarpPedals x = Edges.read(Edges.chords(3));
        x.take(0);
        due("chord(1, 0)", x.chord(1, 0), 0);
        due("chord(2, 0)", x.chord(2, 0), UNKNOWN);
    }

    private static void promise06_whatFrom0To5() {
        int[] want = {0, 4, 729, 1000000, 31, 1};
        for (int what = 0; what < 6; what++) {
            int asked = what;
            dueWithoutChange(Edges.part("1111111;cc"), "what " + what, x -> x.chord(0, asked), want[what]);
        }
        int[] outside = {-1, 6, 7, LEAST, MOST};
        for (int what : outside) {
            dueWithoutChange(Edges::middling, "what " + what, x -> x.chord(0, what), OUTSIDE);
        }
    }

    private static void promise06_unknownIsToldAheadOfOutside() {
        dueWithoutChange(HarpPedals::new, "chord(0, 6)", x -> x.chord(0, 6), UNKNOWN);
        dueWithoutChange(Edges::middling, "chord(3, 6)", x -> x.chord(3, 6), UNKNOWN);
        dueWithoutChange(Edges::middling, "chord(-1, -1)", x -> x.chord(-1, -1), UNKNOWN);
    }

    private static void promise06_tonesAsBitsFrom0To11() {
        due("tone 0", Edges.read("1111111;ca").chord(0, 1), 1);
        due("tone 11", Edges.read("1111111;cl").chord(0, 1), 2048);
        due("both", Edges.read("1111111;cal").chord(0, 1), 2049);
        due("four", Edges.read("1111111;cijkl").chord(0, 1), 3840);
    }

    private static void promise06_howManyFitATone() {
        // tones 2, 7 and 9 are those of one pedal alone: a third of all; others of two: five of nine
        for (int tone = 0; tone < 12; tone++) {
            boolean ofOne = tone == 2 || tone == 7 || tone == 9;
            HarpPedals x = Edges.read("1111111;c" + (char) ('a' + tone));
            due("settings that have tone " + tone, x.chord(0, 2), ofOne ? 729 : 1215);
        }
    }

    private static void promise06_tonesOf12Round() {
        // 0 and 11 together: C natural and B natural, or C flat and B sharp
        HarpPedals x = Edges.read("1111111;cal");
        due("settings", x.chord(0, 2), 486);
        due("the least is C flat, B sharp", x.chord(0, 3), 20000);
    }

    private static void promise06_eachOfItsTonesIsThatOfAPedal() {
        // 0 and 11 take C and B, in two ways: so 1 is left to D
        HarpPedals x = Edges.read("1111111;cabl");
        due("settings", x.chord(0, 2), 2 * 81);
        due("the least", x.chord(0, 3), 20000);
    }

    private static void promise06_noneFits() {
        HarpPedals one = Edges.read("1111111;ga");
        due("no glissando has one tone alone", one.chord(0, 2), 0);
        due("none is the least", one.chord(0, 3), NONE);
        HarpPedals four = Edges.read("1111111;gabcd");
        due("nor has G one of these four", four.chord(0, 2), 0);
        due("none is the least of them", four.chord(0, 3), NONE);
    }

    private static void promise06_aGlissTakesAllPedals() {
        HarpPedals gliss = Edges.read("1111111;gbehk");
        due("D and C are 1, E and F 4, G 7, A and B 10", gliss.chord(0, 2), 1);
        due("that is", gliss.chord(0, 3), 201012);
        // 7 by G; 1 by D or C, 4 by E or F, 10 by B or A: of each pair five of nine
        due("as a plain one more fit", Edges.read("1111111;cbehk").chord(0, 2), 125);
    }

    private static void promise06_aGlissOfTooFewTonesFitsNone() {
        // no three tones take all seven pedals: here G has none of them
        due("three tones", Edges.read("1111111;gbek").chord(0, 2), 0);
        due("a fourth one that G has, and A", Edges.read("1111111;gbeik").chord(0, 2), 2);
        due("the least of these", Edges.read("1111111;gbeik").chord(0, 3), 201020);
        due("a fourth one that G has not", Edges.read("1111111;gbekl").chord(0, 2), 0);
    }

    private static void promise06_theLeastMayBe0() {
        due("all flat has tone 1", Edges.read("1111111;cb").chord(0, 3), 0);
        due("all flat has no tone 0", Edges.read("1111111;ca").chord(0, 3), 20000);
    }

    private static void promise06_allSortsIfNothingIsSeen() {
        due("sorts", Edges.read("1111111;ba").chord(0, 4), 31);
        due("ask", Edges.read("1111111;ba").chord(0, 5), 1);
    }

    private static void promise06_sortsByEachThingSeen() {
        int[] could = {29, 11, 7, 15};
        for (int what = 0; what < 4; what++) {
            HarpPedals x = Edges.read("1111111;ca");
            x.see(0, what, true);
            due("could " + what, x.chord(0, 4), could[what]);
            HarpPedals y = Edges.read("1111111;ca");
            y.see(0, what, false);
            due("could not " + what, y.chord(0, 4), 31 - could[what]);
        }
    }

    private static void promise06_noSortsAreLeft() {
        HarpPedals x = Edges.read("1111111;ca,cb");
        x.see(0, 0, false);
        x.see(0, 3, false);
        due("GLISS and BOUND it can't be", x.chord(0, 4), 0);
        due("so there is none to ask", x.chord(0, 5), NONE);
        due("of the other there is", x.chord(1, 5), 1);
    }

    private static void promise06_oneSortIsLeft() {
        HarpPedals x = Edges.read("1111111;ca");
        x.see(0, 0, false);
        due("GLISS", x.chord(0, 4), 2);
        due("all leave one: the least", x.chord(0, 5), 0);
    }

    private static void promise06_fewestAreLeftAtWorst() {
        // bits 0 CHORD, 1 GLISS, 2 HELD, 3 QUICK, 4 BOUND; thing 3 never leaves fewer than all others do
        dueAsk(31, 1);
        dueAsk(29, 1, 0);
        dueAsk(11, 0, 1);
        dueAsk(7, 0, 2);
        dueAsk(15, 0, 3);
        dueAsk(2, 0, ~0);
        dueAsk(20, 2, ~1);
        dueAsk(24, 1, ~2);
        dueAsk(16, 0, ~3);
        dueAsk(3, 0, 1, 2);
        dueAsk(5, 1, 0, 2);
        dueAsk(9, 2, 0, 1);
        dueAsk(13, 1, 0, 3);
        dueAsk(1, 0, 0, 1, 2);
        dueAsk(4, 0, ~1, 3);
        dueAsk(8, 0, ~2, 1);
        dueAsk(0, NONE, ~0, ~3);
    }

    /** Things seen: by their number, that it could be so; by its complement, that it could not. */
    private static void dueAsk(int sorts, int ask, int... things) {
        HarpPedals x = Edges.read("1111111;ca");
        for (int thing : things) {
            x.see(0, thing < 0 ? ~thing : thing, thing >= 0);
        }
        due("sorts", x.chord(0, 4), sorts);
        due("ask of " + sorts, x.chord(0, 5), ask);
    }

    private static void promise06_whatIsSeenIsOfThatChord() {
        HarpPedals x = Edges.read(Edges.chords(8));
        x.see(7, 1, false);
        x.see(0, 2, false);
        due("sorts of 7", x.chord(7, 4), 20);
        due("sorts of 0", x.chord(0, 4), 24);
        for (int chord = 1; chord < 7; chord++) {
            due("sorts of " + chord, x.chord(chord, 4), 31);
        }
    }

    // ---- 7: "A CHORD taken as a KIND: its number; NONE: it is none such. UNKNOWN; OUTSIDE."

    private static void promise07_chordsFrom0ToTheLast() {
        due("as(0, 0)", Edges.read(Edges.chords(8)).as(0, 0), 0);
        due("as(7, 0)", Edges.read(Edges.chords(8)).as(7, 0), 7);
        int[] unknown = {-1, 8, LEAST, MOST};
        for (int chord : unknown) {
            dueWithoutChange(Edges::full, "as(" + chord + ", 0)", x -> x.as(chord, 0), UNKNOWN);
        }
        dueWithoutChange(Edges::middling, "as(3, 0)", x -> x.as(3, 0), UNKNOWN);
    }

    private static void promise07_kindsFrom0To4() {
        due("as(0, 0)", Edges.read("1111111;ba").as(0, 0), 0);
        due("as(0, 4)", Edges.read("1111111;ba").as(0, 4), 0);
        int[] outside = {-1, 5, LEAST, MOST};
        for (int kind : outside) {
            dueWithoutChange(Edges::middling, "as(0, " + kind + ")", x -> x.as(0, kind), OUTSIDE);
        }
    }

    private static void promise07_unknownIsToldAheadOfOutside() {
        dueWithoutChange(HarpPedals::new, "as(0, 5)", x -> x.as(0, 5), UNKNOWN);
        dueWithoutChange(Edges::middling, "as(3, 5)", x -> x.as(3, 5), UNKNOWN);
        dueWithoutChange(Edges::middling, "as(-1, -1)", x -> x.as(-1, -1), UNKNOWN);
    }

    private static void promise07_allAreChords() {
        for (char kind : KIND_LETTERS.toCharArray()) {
            due("as(1, 0) of " + kind, Edges.read("1111111;ca," + kind + "a").as(1, 0), 1);
        }
    }

    private static void promise07_aBoundOneIsHeldTooButNoHeldOneBound() {
        HarpPedals x = Edges.read("1111111;ca,ha,ba");
        due("bound as held", x.as(2, 2), 2);
        due("held as bound", x.as(1, 4), NONE);
        due("bound as quick", x.as(2, 3), NONE);
    }

    private static void promise07_noneSuchIsNone() {
        String[] others = {"ghqb", "chqb", "cgq", "cghb", "cghq"};
        for (int kind = 1; kind < 5; kind++) {
            for (char other : others[kind].toCharArray()) {
                Supplier<HarpPedals> maker = Edges.part("1111111;" + other + "a");
                int asked = kind;
                dueWithoutChange(maker, other + " as kind " + kind, x -> x.as(0, asked), NONE);
            }
        }
    }

    private static void promise07_eachIsOfItsOwnKind() {
        for (int kind = 0; kind < 5; kind++) {
            int asked = kind;
            Supplier<HarpPedals> maker = Edges.part("1111111;ca," + KIND_LETTERS.charAt(kind) + "a");
            dueWithoutChange(maker, "as its own kind " + kind, x -> x.as(1, asked), 1);
        }
    }

    // ---- 8: "The TONE of a PEDAL in a POSITION. UNKNOWN: pedal (0 to 6); OUTSIDE: position (0 to 2)."

    private static void promise08_pedalsFrom0To6() {
        due("tone(0, 1)", new HarpPedals().tone(0, 1), 2);
        due("tone(6, 1)", new HarpPedals().tone(6, 1), 9);
        int[] unknown = {-1, 7, LEAST, MOST};
        for (int pedal : unknown) {
            dueWithoutChange(Edges::middling, "tone(" + pedal + ", 1)", x -> x.tone(pedal, 1), UNKNOWN);
            dueWithoutChange(HarpPedals::new, "tone(" + pedal + ", 1)", x -> x.tone(pedal, 1), UNKNOWN);
        }
    }

    private static void promise08_positionsFrom0To2() {
        due("tone(4, 0)", new HarpPedals().tone(4, 0), 4);
        due("tone(4, 2)", new HarpPedals().tone(4, 2), 6);
        int[] outside = {-1, 3, LEAST, MOST};
        for (int position : outside) {
            dueWithoutChange(Edges::middling, "tone(0, " + position + ")", x -> x.tone(0, position), OUTSIDE);
            dueWithoutChange(HarpPedals::new, "tone(6, " + position + ")", x -> x.tone(6, position), OUTSIDE);
        }
    }

    private static void promise08_unknownIsToldAheadOfOutside() {
        dueWithoutChange(HarpPedals::new, "tone(7, 3)", x -> x.tone(7, 3), UNKNOWN);
        dueWithoutChange(HarpPedals::new, "tone(-1, -1)", x -> x.tone(-1, -1), UNKNOWN);
    }

    private static void promise08_11And0AreNeighbours() {
        due("C flat", new HarpPedals().tone(1, 0), 11);
        due("B sharp", new HarpPedals().tone(2, 2), 0);
    }

    private static void promise08_allPedalsInAllPositions() {
        int[][] tones = {{1, 2, 3}, {11, 0, 1}, {10, 11, 0}, {3, 4, 5}, {4, 5, 6}, {6, 7, 8}, {8, 9, 10}};
        for (int pedal = 0; pedal < 7; pedal++) {
            for (int position = 0; position < 3; position++) {
                int[] at = {pedal, position};
                dueWithoutChange(Edges.part("0000000;ca"), "tone", x -> x.tone(at[0], at[1]), tones[pedal][position]);
            }
        }
    }
}
