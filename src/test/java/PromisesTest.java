import java.util.function.LongSupplier;

/** For each promise of the document: ordinary inputs, the edges that it names, wrong inputs. */
public final class PromisesTest {
    private static final int NONE = -1, UNKNOWN = -101, OUTSIDE = -102, STATE = -103, FULL = -104;
    private static final int LEAST = Integer.MIN_VALUE, MOST = Integer.MAX_VALUE;
    private static int wrong = 0;
    private static int asked = 0;

    private static void due(String what, long got, long want) {
        asked++;
        if (got != want) {
            wrong++;
            System.out.println(what + " answered " + got + ", due is " + want);
        }
    }

    private static void dueWithoutChange(HarpPedals x, String what, LongSupplier call, long want) {
        long before = x.digest();
        due(what, call.getAsLong(), want);
        due(what + " changes nothing", x.digest(), before);
    }

    private static HarpPedals written(String text) {
        HarpPedals x = new HarpPedals();
        write(x, text);
        return x;
    }

    private static void write(HarpPedals x, String text) {
        for (int i = 0; i < text.length(); i++) {
            x.letter(text.charAt(i));
        }
    }

    private static HarpPedals read(String text) {
        HarpPedals x = written(text);
        if (x.part() < 1) {
            due("part() of " + text, STATE, 1);
        }
        return x;
    }

    public static void main(String[] args) {
        aNewObject();
        letter();
        blank();
        fault();
        part();
        chord();
        sortsAndAsk();
        as();
        tone();
        press();
        put();
        take();
        swap();
        change();
        shift();
        plan();
        gaps();
        setting();
        reach();
        shifted();
        leastShift();
        free();
        see();
        forget();
        drawn();
        image();
        restore();
        count();
        digest();
        System.out.println(asked + " answers, " + wrong + " wrong");
        if (wrong != 0) {
            System.exit(1);
        }
    }

    private static void aNewObject() {
        HarpPedals x = new HarpPedals();
        due("1 count(0)", x.count(0), 0);
        due("1 count(1)", x.count(1), NONE);
        for (int what = 2; what < 7; what++) {
            due("1 count(" + what + ")", x.count(what), 0);
        }
        due("1 chord(0, 0)", x.chord(0, 0), UNKNOWN);
        due("1 chord(0, 9)", x.chord(0, 9), UNKNOWN);
        due("1 as(0, 0)", x.as(0, 0), UNKNOWN);
        due("1 press(0, 0)", x.press(0, 0), STATE);
        due("1 put(0, 0, 1)", x.put(0, 0, 1), STATE);
        due("1 put(1, 0, 1)", x.put(1, 0, 1), UNKNOWN);
        due("1 put(0, 5, 1)", x.put(0, 5, 1), OUTSIDE);
        due("1 take(0)", x.take(0), UNKNOWN);
        due("1 swap(0, 1)", x.swap(0, 1), UNKNOWN);
        due("1 change(0, 0)", x.change(0, 0), UNKNOWN);
        due("1 shift(0)", x.shift(0), STATE);
        due("1 shift(12)", x.shift(12), OUTSIDE);
        due("1 plan(0)", x.plan(0), STATE);
        due("1 plan(3)", x.plan(3), OUTSIDE);
        due("1 setting(0)", x.setting(0), UNKNOWN);
        due("1 reach(0)", x.reach(0), UNKNOWN);
        due("1 shifted(0)", x.shifted(0), STATE);
        due("1 shifted(12)", x.shifted(12), OUTSIDE);
        due("1 leastShift()", x.leastShift(), STATE);
        due("1 free()", x.free(), STATE);
        due("1 see(0, 0, true)", x.see(0, 0, true), UNKNOWN);
        due("1 forget()", x.forget(), 0);
        due("1 drawn(1, 0, 0)", x.drawn(1, 0, 0), STATE);
        due("1 drawn(0, 0, 0)", x.drawn(0, 0, 0), OUTSIDE);
        due("1 image()", x.image(), STATE);
        due("1 restore()", x.restore(), STATE);
        due("1 part()", x.part(), STATE);
        due("1 fault()", x.fault(), 0);
        due("1 blank()", x.blank(), 0);
        due("1 count(6)", x.count(6), 0);
    }

    private static void letter() {
        HarpPedals x = new HarpPedals();
        due("2 letter(0)", x.letter(0), OUTSIDE);
        due("2 letter(127)", x.letter(127), OUTSIDE);
        due("2 letter(-1)", x.letter(-1), OUTSIDE);
        due("2 letter(LEAST)", x.letter(LEAST), OUTSIDE);
        due("2 letter(MOST)", x.letter(MOST), OUTSIDE);
        due("2 letter(1)", x.letter(1), 1);
        due("2 letter(126)", x.letter(126), 2);
        for (int i = 3; i <= 56; i++) {
            due("2 letter number " + i, x.letter(49), i);
        }
        dueWithoutChange(x, "2 letter number 57", () -> x.letter(49), FULL);
        due("2 OUTSIDE is told ahead of FULL", x.letter(0), OUTSIDE);
        due("2 count(4)", x.count(4), 56);
    }

    private static void blank() {
        HarpPedals x = written("111");
        due("3 blank()", x.blank(), 3);
        due("3 blank() again", x.blank(), 0);
        due("3 letter behind it", x.letter(50), 1);
        HarpPedals y = read("1111111;ca");
        write(y, "12");
        y.blank();
        due("3 the part stays", y.count(0), 1);
    }

    private static void fault() {
        dueFault("", 0);
        dueFault("3", 0);
        dueFault("/", 0);
        dueFault("012012", 6);
        dueFault("012012;", 6);
        dueFault("0120120", 7);
        dueFault("01201201", 7);
        dueFault("0120120;", 8);
        dueFault("0120120;;", 8);
        dueFault("0120120;a", 8);
        dueFault("0120120;C", 8);
        for (char kind : "cghqb".toCharArray()) {
            dueFault("0120120;" + kind, 9);
            dueFault("0120120;" + kind + "l", 10);
        }
        dueFault("0120120;c,", 9);
        dueFault("0120120;c`", 9);
        dueFault("0120120;cm", 9);
        dueFault("0120120;cA", 9);
        dueFault("0120120;caa", 10);
        dueFault("0120120;cba", 10);
        dueFault("0120120;cla", 10);
        dueFault("0120120;cab", 11);
        dueFault("0120120;cabcd", 13);
        dueFault("0120120;cabcde", 13);
        dueFault("0120120;ca,", 11);
        dueFault("0120120;ca,,", 11);
        dueFault("0120120;ca,a", 11);
        dueFault("0120120;ca,gi", 13);
        dueFault("0120120;ca;", 10);
        dueFault("0120120;" + "ca,".repeat(7) + "cl", 31);
        dueFault("0120120;" + "ca,".repeat(7) + "cl,", 31);
        dueFault("0120120;" + "ca,".repeat(7) + "x", 29);
        dueFault("0120120;" + "habcd,".repeat(7) + "bijkl", 55);
        dueFault("0120120;" + "habcd,".repeat(7) + "bijkl,", 55);
        dueFault("0x20120;ca", 1);
        HarpPedals x = written("0x");
        x.fault();
        due("4 it stays as it is", x.count(4), 2);
    }

    private static void dueFault(String text, int want) {
        due("4 fault() of " + text, written(text).fault(), want);
    }

    private static void part() {
        String[] none = {"", "1", "1111111", "1111111;", "1111111;c", "1111111;ca,", "1111111;ca,c", "1111111;caa",
            "111111;ca", "1111111;ca;", "1131111;ca", "1111111;" + "ca,".repeat(8) + "ca"};
        for (String text : none) {
            HarpPedals x = written(text);
            dueWithoutChange(x, "5 part() of " + text, x::part, STATE);
        }
        HarpPedals x = written("0120120;ca,gbd,hbdfh,ql,bk");
        due("5 part()", x.part(), 5);
        due("5 the page is empty", x.count(4), 0);
        due("5 begins", x.count(1), 120120);
        int[] kinds = {0, 1, 2, 3, 4};
        int[] tones = {1, 10, 170, 2048, 1024};
        for (int i = 0; i < 5; i++) {
            due("5 kind of " + i, x.chord(i, 0), kinds[i]);
            due("5 tones of " + i, x.chord(i, 1), tones[i]);
        }
        x.see(0, 0, false);
        x.image();
        write(x, "2222222;gabcd");
        due("5 another part", x.part(), 1);
        due("5 what was seen is gone", x.count(3), 0);
        due("5 the image is gone", x.restore(), STATE);
        due("5 it begins otherwise", x.count(1), 2222222);
        due("5 chord 1 is gone", x.chord(1, 0), UNKNOWN);
        due("5 read twice", x.count(5), 2);
        due("5 eight chords", written("0120120;" + "habcd,".repeat(7) + "bijkl").part(), 8);
        due("5 one that is none keeps the part", keptAfterBadPage(), 1);
        HarpPedals y = read("1111111;cb");
        due("5 the plan of one part", y.plan(0) * 10000000 + y.setting(0), 10111111);
        write(y, "1111111;ca");
        y.part();
        due("5 the plan of another", y.plan(0) * 10000000 + y.setting(0), 1111111);
        y.leastShift();
        write(y, "1111111;ca");
        y.part();
        due("5 how often LEAST SHIFT was asked for is the object's, not the part's", y.count(6), 1);
    }

    private static int keptAfterBadPage() {
        HarpPedals x = read("1111111;ca");
        write(x, "1");
        x.part();
        return x.count(0);
    }

    private static void chord() {
        HarpPedals x = read("1111111;cc,gbehk,cabcd,hal,ga,cl");
        due("6 fits D natural", x.chord(0, 2), 729);
        due("6 least with D natural", x.chord(0, 3), 1000000);
        due("6 a glissando that one setting fits", x.chord(1, 2), 1);
        due("6 that setting", x.chord(1, 3), 201012);
        due("6 four neighbours", x.chord(2, 1), 15);
        due("6 C or B sharp, C flat or B natural", x.chord(3, 2), 2 * 243);
        due("6 the least of them: C flat and B sharp", x.chord(3, 3), 20000);
        due("6 no setting has one tone alone", x.chord(4, 2), 0);
        due("6 so there is no least", x.chord(4, 3), NONE);
        due("6 two strings have 11", x.chord(5, 2), 1215);
        due("6 the least with it", x.chord(5, 3), 0);
        due("6 a glissando's kind", x.chord(1, 0), 1);
        due("6 chord 6", x.chord(6, 0), UNKNOWN);
        due("6 chord -1", x.chord(-1, 0), UNKNOWN);
        due("6 UNKNOWN is told first", x.chord(MOST, 6), UNKNOWN);
        due("6 what 6", x.chord(0, 6), OUTSIDE);
        due("6 what -1", x.chord(0, -1), OUTSIDE);
        due("6 what LEAST", x.chord(5, LEAST), OUTSIDE);
    }

    private static void sortsAndAsk() {
        int[] could = {29, 11, 7, 15};
        for (int what = 0; what < 4; what++) {
            HarpPedals x = read("1111111;ca,ga");
            due("6 all sorts", x.chord(1, 4), 31);
            due("6 ask with all sorts", x.chord(1, 5), 1);
            x.see(1, what, true);
            due("6 sorts if " + what + " could be", x.chord(1, 4), could[what]);
            due("6 sorts of another chord", x.chord(0, 4), 31);
            x.forget();
            x.see(1, what, false);
            due("6 sorts if " + what + " could not be", x.chord(1, 4), 31 - could[what]);
            x.see(1, what, true);
            due("6 no sorts", x.chord(1, 4), 0);
            due("6 nothing to ask", x.chord(1, 5), NONE);
        }
        HarpPedals x = read("1111111;ca");
        x.see(0, 1, false);
        due("6 HELD or BOUND", x.chord(0, 4), 20);
        due("6 ask if two pedals are moved ahead", x.chord(0, 5), 2);
        x.see(0, 2, false);
        due("6 BOUND alone", x.chord(0, 4), 16);
        due("6 of like ones the least", x.chord(0, 5), 0);
        x.forget();
        x.see(0, 1, true);
        due("6 CHORD, GLISS or QUICK: like ones", x.chord(0, 5), 0);
        x.see(0, 0, true);
        due("6 CHORD or QUICK", x.chord(0, 5), 2);
    }

    private static void as() {
        HarpPedals x = read("1111111;ca,ga,ha,qa,ba");
        boolean[][] such = {
            {true, false, false, false, false},
            {true, true, false, false, false},
            {true, false, true, false, false},
            {true, false, false, true, false},
            {true, false, true, false, true}};
        for (int chord = 0; chord < 5; chord++) {
            for (int kind = 0; kind < 5; kind++) {
                due("7 as(" + chord + ", " + kind + ")", x.as(chord, kind), such[chord][kind] ? chord : NONE);
            }
        }
        due("7 as(5, 0)", x.as(5, 0), UNKNOWN);
        due("7 as(-1, 9)", x.as(-1, 9), UNKNOWN);
        due("7 as(0, 5)", x.as(0, 5), OUTSIDE);
        due("7 as(0, -1)", x.as(0, -1), OUTSIDE);
    }

    private static void tone() {
        int[][] tones = {{1, 2, 3}, {11, 0, 1}, {10, 11, 0}, {3, 4, 5}, {4, 5, 6}, {6, 7, 8}, {8, 9, 10}};
        HarpPedals x = new HarpPedals();
        for (int pedal = 0; pedal < 7; pedal++) {
            for (int position = 0; position < 3; position++) {
                due("8 tone(" + pedal + ", " + position + ")", x.tone(pedal, position), tones[pedal][position]);
            }
        }
        due("8 tone(7, 0)", x.tone(7, 0), UNKNOWN);
        due("8 tone(-1, 3)", x.tone(-1, 3), UNKNOWN);
        due("8 tone(0, 3)", x.tone(0, 3), OUTSIDE);
        due("8 tone(6, -1)", x.tone(6, -1), OUTSIDE);
        due("8 tone(MOST, LEAST)", x.tone(MOST, LEAST), UNKNOWN);
    }

    private static void press() {
        HarpPedals x = read("1111111;cc");
        due("9 press(0, 0)", x.press(0, 0), 111111);
        due("9 it has to be moved now", x.plan(0), 1);
        due("9 press(6, 2)", x.press(6, 2), 111112);
        due("9 press(3, 0)", x.press(3, 0), 110112);
        due("9 press(3, 0) again", x.press(3, 0), 110112);
        due("9 press(0, 2)", x.press(0, 2), 2110112);
        due("9 count(1)", x.count(1), 2110112);
        dueWithoutChange(x, "9 press(7, 3)", () -> x.press(7, 3), UNKNOWN);
        dueWithoutChange(x, "9 press(-1, 0)", () -> x.press(-1, 0), UNKNOWN);
        dueWithoutChange(x, "9 press(0, 3)", () -> x.press(0, 3), OUTSIDE);
        dueWithoutChange(x, "9 press(0, -1)", () -> x.press(0, -1), OUTSIDE);
        HarpPedals y = new HarpPedals();
        due("9 UNKNOWN ahead of STATE", y.press(7, 0), UNKNOWN);
        due("9 OUTSIDE ahead of STATE", y.press(0, 3), OUTSIDE);
        due("9 no part", y.press(0, 0), STATE);
    }

    private static void put() {
        HarpPedals x = read("1111111;ca,cb");
        due("10 put in between", x.put(1, 3, 4), 3);
        due("10 its kind", x.chord(1, 0), 3);
        due("10 its tones", x.chord(1, 1), 4);
        due("10 the one behind it", x.chord(2, 1), 2);
        due("10 put first", x.put(0, 4, 2048), 4);
        due("10 the first one", x.chord(0, 1), 2048);
        due("10 put last", x.put(4, 1, 15), 5);
        due("10 the last one", x.chord(4, 0), 1);
        dueWithoutChange(x, "10 place -1", () -> x.put(-1, 9, 0), UNKNOWN);
        dueWithoutChange(x, "10 place 6", () -> x.put(6, 0, 1), UNKNOWN);
        dueWithoutChange(x, "10 kind 5", () -> x.put(0, 5, 1), OUTSIDE);
        dueWithoutChange(x, "10 kind -1", () -> x.put(0, -1, 1), OUTSIDE);
        dueWithoutChange(x, "10 no tones", () -> x.put(0, 0, 0), OUTSIDE);
        dueWithoutChange(x, "10 five tones", () -> x.put(0, 0, 31), OUTSIDE);
        dueWithoutChange(x, "10 tone 12", () -> x.put(0, 0, 4096), OUTSIDE);
        dueWithoutChange(x, "10 less than none", () -> x.put(0, 0, LEAST), OUTSIDE);
        due("10 tones 8 to 11", x.put(0, 0, 3840), 6);
        x.put(0, 0, 1);
        due("10 the eighth", x.put(0, 0, 1), 8);
        dueWithoutChange(x, "10 a ninth", () -> x.put(8, 0, 1), FULL);
        dueWithoutChange(x, "10 place 9", () -> x.put(9, 0, 1), UNKNOWN);
        dueWithoutChange(x, "10 OUTSIDE ahead of FULL", () -> x.put(8, 0, 0), OUTSIDE);
    }

    private static void take() {
        HarpPedals x = read("1111111;ca,cb,cc");
        x.see(1, 0, false);
        x.see(2, 1, false);
        due("11 take(1)", x.take(1), 2);
        due("11 the one behind it comes there", x.chord(1, 1), 4);
        due("11 what is seen stays with the number", x.chord(1, 4), 2);
        due("11 of one that is not there too", x.count(3), 2);
        dueWithoutChange(x, "11 take(2)", () -> x.take(2), UNKNOWN);
        dueWithoutChange(x, "11 take(-1)", () -> x.take(-1), UNKNOWN);
        due("11 take(0)", x.take(0), 1);
        due("11 what is left", x.chord(0, 1), 4);
        dueWithoutChange(x, "11 the only one", () -> x.take(0), STATE);
        due("11 UNKNOWN ahead of STATE", x.take(1), UNKNOWN);
        x.put(1, 0, 1);
        x.put(2, 0, 1);
        due("11 it is seen of the new chord 2", x.chord(2, 4), 20);
    }

    private static void swap() {
        HarpPedals x = read("1111111;ba,cb,gabcd");
        due("12 a glissando that nothing fits", x.plan(2), 2);
        due("12 swap(2, 0)", x.swap(2, 0), NONE);
        due("12 kind of 0", x.chord(0, 0), 1);
        due("12 tones of 2", x.chord(2, 1), 1);
        due("12 kind of 2", x.chord(2, 0), 4);
        HarpPedals y = read("1111111;ba,cb");
        y.see(0, 0, false);
        due("12 swap(0, 1)", y.swap(0, 1), 1);
        due("12 swap(1, 0)", y.swap(1, 0), 1);
        due("12 what is seen stays with the number", y.chord(0, 4), 2);
        dueWithoutChange(y, "12 swap(0, 0)", () -> y.swap(0, 0), UNKNOWN);
        dueWithoutChange(y, "12 swap(2, 0)", () -> y.swap(2, 0), UNKNOWN);
        dueWithoutChange(y, "12 swap(0, 2)", () -> y.swap(0, 2), UNKNOWN);
        dueWithoutChange(y, "12 swap(-1, 0)", () -> y.swap(-1, 0), UNKNOWN);
    }

    private static void change() {
        HarpPedals x = read("1111111;cb");
        due("13 fewest", x.plan(0), 1);
        due("13 change(0, 4)", x.change(0, 4), 0);
        due("13 it is bound now", x.plan(0), NONE);
        due("13 change(0, 4) again", x.change(0, 4), 4);
        due("13 change(0, 1)", x.change(0, 1), 4);
        due("13 a glissando of one tone", x.chord(0, 2), 0);
        dueWithoutChange(x, "13 kind 5", () -> x.change(0, 5), OUTSIDE);
        dueWithoutChange(x, "13 kind -1", () -> x.change(0, -1), OUTSIDE);
        dueWithoutChange(x, "13 chord 1", () -> x.change(1, 5), UNKNOWN);
        dueWithoutChange(x, "13 chord -1", () -> x.change(-1, 0), UNKNOWN);
    }

    private static void shift() {
        HarpPedals x = read("1111111;ca,cal,gbehk");
        due("14 shift(0)", x.shift(0), NONE);
        due("14 shift(1)", x.shift(1), NONE);
        due("14 tones of 0", x.chord(0, 1), 2);
        due("14 tones of 1: 11 becomes 0", x.chord(1, 1), 3);
        due("14 tones of 2", x.chord(2, 1), 1 << 2 | 1 << 5 | 1 << 8 | 1 << 11);
        due("14 shift(11)", x.shift(11), NONE);
        due("14 0 becomes 11", x.chord(1, 1), 2049);
        HarpPedals y = read("1111111;cc");
        due("14 to D sharp or E flat", y.shift(1), 1);
        due("14 to E natural", y.shift(1), 0);
        dueWithoutChange(y, "14 shift(12)", () -> y.shift(12), OUTSIDE);
        dueWithoutChange(y, "14 shift(-1)", () -> y.shift(-1), OUTSIDE);
    }

    private static void plan() {
        HarpPedals x = read("1111111;cb");
        due("15 fewest", x.plan(0), 1);
        due("15 ways: D flat, C sharp", x.plan(1), 2);
        due("15 stuck", x.plan(2), NONE);
        due("15 what 3", x.plan(3), OUTSIDE);
        due("15 what -1", x.plan(-1), OUTSIDE);
        HarpPedals y = read("1111111;ba,bb,ca");
        due("15 no plan", y.plan(0), NONE);
        due("15 no ways", y.plan(1), 0);
        due("15 stuck at 1", y.plan(2), 1);
        HarpPedals z = read("1111111;ca,bb");
        due("15 moved ahead of the one before it", z.plan(0), 1);
        due("15 by D flat alone: C has the other tone", z.plan(1), 1);
        HarpPedals w = read("1111111;ca,cc,ce,cf,ch,cj,cl,ca");
        due("15 nothing to move", w.plan(0), 0);
        due("15 in one way", w.plan(1), 1);
        HarpPedals v = read("1111111;cc,cc,cc,cc,cc,cc,cc,cb");
        // one move: C sharp in any of the eight gaps, D flat in the last one alone
        due("15 ways of when to move", v.plan(1), 9);
        // 1308696 ways in all
        due("15 ways are told as the rest", read("0010121;cl,cg,ce,cd,ck,chk,caci,cbfg").plan(1), 308693);
    }

    private static void gaps() {
        due("15 one pedal of each foot", read("1111111;cbk").plan(0), 2);
        due("15 D flat or C sharp, A sharp; C natural is not asked for", read("1111111;cbk").plan(1), 2);
        due("15 two of the left foot can't be", read("0000000;cac").plan(0), NONE);
        due("15 two of the right foot can't be", read("1111111;cgi").plan(0), NONE);
        due("15 quick: one pedal", read("1111111;qb").plan(0), 1);
        due("15 quick: two can't be", read("1111111;qbk").plan(0), NONE);
        due("15 bound: none", read("1111111;bb").plan(0), NONE);
        due("15 bound: what is there", read("1111111;bace").plan(0), 0);
        HarpPedals held = read("1111111;hc,cb");
        due("15 D is held: C sharp", held.plan(0), 1);
        due("15 in one gap or the other", held.plan(1), 2);
        due("16 first the least", held.setting(0), 1111111);
        due("16 then C sharp", held.setting(1), 1211111);
        HarpPedals bound = read("1111111;bc,cb");
        due("15 bound is held, too", bound.plan(1), 1);
        due("16 C sharp", bound.setting(1), 1211111);
        HarpPedals plain = read("1111111;cc,cb");
        due("15 not held: three ways", plain.plan(1), 3);
        due("16 D flat is less", plain.setting(1), 111111);
        HarpPedals none = read("1111111;bac,bac,cb");
        due("15 C and D are held", none.plan(2), 2);
        HarpPedals later = read("1111111;bac,ca,cb");
        due("15 held for one gap alone", later.plan(0), 1);
        HarpPedals other = read("1211111;bbc,ca");
        due("15 C sharp is held: B sharp", other.setting(1), 1221111);
        HarpPedals gliss = read("0201011;gbehk");
        due("15 a glissando by one move", gliss.plan(0), 1);
        due("16 its setting", gliss.setting(0), 201012);
        HarpPedals both = read("0000000;hk,cc");
        // B flat is held; so D has to be natural in one gap or the other
        due("15 held pedals stay, others go", both.plan(1), 2);
    }

    private static void setting() {
        HarpPedals x = read("1111111;cb,ca");
        due("16 setting(0)", x.setting(0), 111111);
        due("16 setting(1)", x.setting(1), 111111);
        due("16 setting(2)", x.setting(2), UNKNOWN);
        due("16 setting(-1)", x.setting(-1), UNKNOWN);
        HarpPedals y = read("1111111;ca,bbk,bg");
        due("16 no plan, though it can be come to chord 0", y.setting(0), NONE);
        due("16 nor for the last one", y.setting(2), NONE);
        HarpPedals z = read("1111111;cc,cb");
        due("16 of like ones the first setting is the least", z.setting(0), 1111111);
    }

    private static void reach() {
        HarpPedals x = read("1111111;cc,bc,qc,bb");
        due("17 D stays: 5 by the left foot, 9 by the right one", x.reach(0), 45);
        due("17 bound: as many", x.reach(1), 45);
        // D stays; of C and B at most one is moved so far (5 settings) or both (9), of the right
        // pedals at most one (9) or two (33): two gaps, of which the second one is for one pedal alone
        due("17 quick: one more pedal", x.reach(2), 9 * 9 + 5 * 33 - 45);
        due("17 reach(4)", x.reach(4), UNKNOWN);
        due("17 reach(-1)", x.reach(-1), UNKNOWN);
        HarpPedals y = read("1111111;ba,bb,ca");
        due("17 the begin alone", y.reach(0), 1);
        due("17 none", y.reach(1), 0);
        due("17 none behind it", y.reach(2), 0);
        HarpPedals z = read("1111111;ba,ca,gabcd");
        due("17 whatever comes behind", z.reach(0), 1);
    }

    private static void shifted() {
        HarpPedals x = read("1111111;cc");
        int[] want = {0, 1, 0, 0, 1, 0, 1, 0, 1, 0, 0, 1};
        for (int by = 0; by < 12; by++) {
            due("18 shifted(" + by + ")", x.shifted(by), want[by]);
        }
        due("18 the tones stay", x.chord(0, 1), 4);
        due("18 so does the plan", x.plan(0), 0);
        due("18 shifted(12)", x.shifted(12), OUTSIDE);
        due("18 shifted(-1)", x.shifted(-1), OUTSIDE);
        HarpPedals y = read("1111111;bc,bcl");
        due("18 it can be as it is", y.shifted(0), 0);
        due("18 it can't be", y.shifted(1), NONE);
        HarpPedals z = read("1111111;hb,cc");
        due("18 what is held is shifted, too", z.shifted(1), 1);
    }

    private static void leastShift() {
        HarpPedals x = read("0000000;cc");
        due("19 leastShift()", x.leastShift(), 1);
        due("19 count(6)", x.count(6), 1);
        due("19 the tones stay", x.chord(0, 1), 4);
        x.press(0, 1);
        due("19 of like ones the least", x.leastShift(), 0);
        x.change(0, 1);
        due("19 none", x.leastShift(), NONE);
        x.leastShift();
        due("19 the fifth", x.leastShift(), NONE);
        dueWithoutChange(x, "19 the sixth", x::leastShift, STATE);
        due("19 count(6) then", x.count(6), 5);
        due("19 without a part it does not count", askedWithoutPart(), 0);
    }

    private static int askedWithoutPart() {
        HarpPedals x = new HarpPedals();
        x.leastShift();
        return x.count(6);
    }

    private static void free() {
        due("20 D flat is flat", read("1111111;cb").free(), 0);
        due("20 D natural", read("2222222;cc").free(), 1000000);
        due("20 a glissando", read("1111111;gbehk").free(), 201012);
        due("20 none", read("1111111;ga").free(), NONE);
        HarpPedals x = read("1111111;bb,bb");
        due("20 none from here", x.plan(0), NONE);
        due("20 but freely", x.free(), 0);
        due("20 it begins as before", x.count(1), 1111111);
    }

    private static void see() {
        HarpPedals x = read("1111111;ca,cb");
        dueWithoutChange(x, "21 chord 2", () -> x.see(2, 4, true), UNKNOWN);
        dueWithoutChange(x, "21 chord -1", () -> x.see(-1, 0, true), UNKNOWN);
        dueWithoutChange(x, "21 what 4", () -> x.see(0, 4, true), OUTSIDE);
        dueWithoutChange(x, "21 what -1", () -> x.see(0, -1, true), OUTSIDE);
        due("21 the first", x.see(0, 0, true), 1);
        due("21 the same again", x.see(0, 0, true), 2);
        for (int i = 3; i <= 6; i++) {
            due("21 number " + i, x.see(1, i % 4, true), i);
        }
        dueWithoutChange(x, "21 a seventh", () -> x.see(1, 0, true), FULL);
        due("21 OUTSIDE ahead of FULL", x.see(1, 4, true), OUTSIDE);
        due("21 UNKNOWN ahead of FULL", x.see(2, 0, true), UNKNOWN);
        due("21 it is not of that kind by it", x.chord(0, 0), 0);
    }

    private static void forget() {
        HarpPedals x = read("1111111;ca");
        x.see(0, 0, false);
        x.see(0, 1, true);
        due("22 forget()", x.forget(), 2);
        due("22 all sorts", x.chord(0, 4), 31);
        due("22 forget() again", x.forget(), 0);
        due("22 the first", x.see(0, 0, false), 1);
    }

    private static void drawn() {
        HarpPedals x = read("1111111;ca");
        // seed 0: 12345, by 65536 is 0: tone 0; then 1406932606, by 65536 is 21468, its rest by 11 is 7: tone 8
        due("23 played", x.drawn(1, 0, 0), 1);
        due("23 moves: A flat", x.drawn(1, 0, 1), 1);
        due("23 the seed then", x.drawn(1, 0, 2), 1406932606);
        due("23 the greatest seed", x.drawn(1, MOST, 2), seedAfter(MOST, 2));
        due("23 thirty times", x.drawn(30, 5, 2), seedAfter(5, 60));
        dueWithoutChange(x, "23 it is not really played", () -> x.drawn(30, 7, 0) >= 0 ? 1 : 0, 1);
        due("23 times 0", x.drawn(0, 0, 0), OUTSIDE);
        due("23 times 31", x.drawn(31, 0, 0), OUTSIDE);
        due("23 seed -1", x.drawn(1, -1, 0), OUTSIDE);
        due("23 seed LEAST", x.drawn(1, LEAST, 0), OUTSIDE);
        due("23 what 3", x.drawn(1, 0, 3), OUTSIDE);
        due("23 what -1", x.drawn(1, 0, -1), OUTSIDE);
        due("23 OUTSIDE ahead of STATE", new HarpPedals().drawn(1, 0, 3), OUTSIDE);
    }

    private static long seedAfter(long seed, int draws) {
        for (int i = 0; i < draws; i++) {
            seed = (1103515245L * seed + 12345) % (1L << 31);
        }
        return seed;
    }

    private static void image() {
        HarpPedals x = read("1111111;ca,cb");
        dueWithoutChange(x, "24 image()", x::image, 2);
        x.take(0);
        due("24 the latest", x.image(), 1);
        x.put(0, 0, 1);
        due("24 is that one", x.restore(), 1);
    }

    private static void restore() {
        HarpPedals x = read("1111111;ca,hb");
        dueWithoutChange(x, "25 none was kept", x::restore, STATE);
        x.see(0, 0, false);
        long before = x.digest();
        x.image();
        x.press(0, 2);
        x.put(0, 1, 7);
        x.swap(0, 2);
        x.shift(3);
        x.change(0, 3);
        x.see(1, 1, true);
        due("25 restore()", x.restore(), 2);
        due("25 all is as it was", x.digest(), before);
        x.forget();
        due("25 restore() again", x.restore(), 2);
        due("25 it is seen again", x.digest(), before);
        x.leastShift();
        x.restore();
        due("25 it is not forgotten how often was asked", x.count(6), 1);
        write(x, "22");
        x.restore();
        due("25 the page stays", x.count(4), 2);
        x.blank();
        write(x, "1111111;ca,hb");
        x.part();
        due("25 another part, if like it", x.restore(), STATE);
        due("25 its own image", x.image(), 2);
        due("25 it goes on", x.restore(), 2);
    }

    private static void count() {
        HarpPedals x = read("0001112;ca,cabl,hb");
        write(x, "123");
        x.see(0, 0, true);
        x.leastShift();
        long[] want = {3, 1112, 3, 1, 3, 1, 1};
        for (int what = 0; what < 7; what++) {
            due("26 count(" + what + ")", x.count(what), want[what]);
        }
        due("26 count(7)", x.count(7), OUTSIDE);
        due("26 count(-1)", x.count(-1), OUTSIDE);
        due("26 count(LEAST)", x.count(LEAST), OUTSIDE);
        x.part();
        due("26 a page that is none is not read", x.count(5), 1);
    }

    private static void digest() {
        HarpPedals x = new HarpPedals();
        due("27 no part", x.digest(), folded(1423, 0, NONE, 0, 0, 0, 0, 0));
        x.letter(49);
        x.letter(126);
        due("27 letters", x.digest(), folded(1423, 49, 126, 0, NONE, 0, 0, 2, 0, 0));
        HarpPedals y = read("1111111;cc,qb");
        y.letter(7);
        long h = 1423;
        for (int chord = 0; chord < 2; chord++) {
            for (int what = 0; what < 6; what++) {
                h = folded(h, y.chord(chord, what));
            }
            h = folded(h, y.setting(chord), y.reach(chord));
        }
        h = folded(h, y.plan(0), y.plan(1), y.plan(2), 7);
        due("27 a part", y.digest(), folded(h, 2, 1111111, 2, 0, 1, 1, 0));
        due("27 the same again", y.digest(), y.digest());
    }

    private static long folded(long h, long... numbers) {
        for (long number : numbers) {
            h = 31 * h + number;
        }
        return h;
    }
}
