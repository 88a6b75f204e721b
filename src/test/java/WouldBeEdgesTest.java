import java.util.function.Supplier;
import java.util.function.ToLongFunction;

/**
 * Promises 15 to 20 at their edges: a test for each sentence that names one. The answers are found
 * by hand, from the tones that each pedal can have: D 1 2 3, C 11 0 1, B 10 11 0 (the left foot),
 * E 3 4 5, F 4 5 6, G 6 7 8, A 8 9 10 (the right one).
 */
public final class WouldBeEdgesTest {
    private static final int NONE = Edges.NONE, UNKNOWN = Edges.UNKNOWN, OUTSIDE = Edges.OUTSIDE, STATE = Edges.STATE;
    private static final int LEAST = Edges.LEAST, MOST = Edges.MOST;

    public static void main(String[] args) throws IllegalAccessException {
        Edges.run(WouldBeEdgesTest.class, 15, 20);
    }

    private static void due(String what, long got, long want) {
        Edges.due(what, got, want);
    }

    private static void dueWithoutChange(Supplier<HarpPedals> maker, String what, ToLongFunction<HarpPedals> call, long want) {
        Edges.dueWithoutChange(maker, what, call, want);
    }

    /** FEWEST, WAYS and STUCK of a part. */
    private static void duePlan(String text, int fewest, int ways, int stuck) {
        dueWithoutChange(Edges.part(text), "fewest of " + text, x -> x.plan(0), fewest);
        dueWithoutChange(Edges.part(text), "ways of " + text, x -> x.plan(1), ways);
        dueWithoutChange(Edges.part(text), "stuck of " + text, x -> x.plan(2), stuck);
    }

    private static void dueSettings(String text, int... settings) {
        HarpPedals x = Edges.read(text);
        for (int chord = 0; chord < settings.length; chord++) {
            due("setting(" + chord + ") of " + text, x.setting(chord), settings[chord]);
        }
    }

    private static void dueReach(String text, int... reach) {
        HarpPedals x = Edges.read(text);
        for (int chord = 0; chord < reach.length; chord++) {
            due("reach(" + chord + ") of " + text, x.reach(chord), reach[chord]);
        }
    }

    private static void dueUnknownChords(String name, java.util.function.ToIntBiFunction<HarpPedals, Integer> call) {
        int[] unknown = {-1, 3, LEAST, MOST};
        for (int chord : unknown) {
            dueWithoutChange(Edges::middling, name + "(" + chord + ")", x -> call.applyAsInt(x, chord), UNKNOWN);
        }
        dueWithoutChange(Edges::full, name + "(8)", x -> call.applyAsInt(x, 8), UNKNOWN);
        dueWithoutChange(Edges::full, name + "(-1)", x -> call.applyAsInt(x, -1), UNKNOWN);
        dueWithoutChange(HarpPedals::new, name + "(0) without a part", x -> call.applyAsInt(x, 0), UNKNOWN);
        dueWithoutChange(Edges.part("1111111;ca"), name + "(1) of one", x -> call.applyAsInt(x, 1), UNKNOWN);
    }

    // ---- 15: "what = 0 FEWEST (NONE), 1 WAYS, 2 STUCK (NONE). OUTSIDE; STATE: no PART."

    private static void promise15_whatFrom0To2() {
        duePlan("1111111;cb", 1, 2, NONE);
        int[] outside = {-1, 3, LEAST, MOST};
        for (int what : outside) {
            dueWithoutChange(Edges::middling, "plan(" + what + ")", x -> x.plan(what), OUTSIDE);
            dueWithoutChange(Edges::full, "plan(" + what + ")", x -> x.plan(what), OUTSIDE);
        }
    }

    private static void promise15_noPart() {
        for (int what = 0; what < 3; what++) {
            int asked = what;
            dueWithoutChange(HarpPedals::new, "plan(" + what + ")", x -> x.plan(asked), STATE);
        }
    }

    private static void promise15_outsideIsToldAheadOfState() {
        dueWithoutChange(HarpPedals::new, "plan(3)", x -> x.plan(3), OUTSIDE);
        dueWithoutChange(HarpPedals::new, "plan(-1)", x -> x.plan(-1), OUTSIDE);
    }

    private static void promise15_noMoveIsNotNone() {
        duePlan("1111111;ca", 0, 1, NONE);
        duePlan("1111111;ca,cc,ce,cf,ch,cj,cl,ca", 0, 1, NONE);
    }

    private static void promise15_noneIfThereIsNoPlan() {
        duePlan("1111111;ga", NONE, 0, 0);
        duePlan("1111111;ca,ga", NONE, 0, 1);
    }

    private static void promise15_stuckAtTheFirstOfSeveral() {
        duePlan("1111111;ga,ga", NONE, 0, 0);
        duePlan("1111111;ca,ga,ca,ga", NONE, 0, 1);
    }

    private static void promise15_stuckAtTheLastOfEight() {
        duePlan("1111111;" + "ca,".repeat(7) + "ga", NONE, 0, 7);
        duePlan("1111111;" + "ca,".repeat(7) + "ca", 0, 1, NONE);
    }

    private static void promise15_stuckThoughEachChordHasSettings() {
        duePlan("1111111;bc,bb", NONE, 0, 1);
    }

    private static void promise15_waysAreToldByTheirRest() {
        // 1308696 ways in all
        due("ways", Edges.read("0010121;cl,cg,ce,cd,ck,chk,caci,cbfg").plan(1), 308693);
    }

    private static void promise15_waysAreOnlyThoseWithFewestMoves() {
        // one move: C sharp in any of the eight gaps, D flat in the last one alone
        duePlan("1111111;cc,cc,cc,cc,cc,cc,cc,cb", 1, 9, NONE);
    }

    private static void promise15_eachFootMovesOnePedal() {
        duePlan("1111111;cbk", 2, 2, NONE);
        // 0 and 2 by the left foot alone
        duePlan("0000000;cac", NONE, 0, 0);
        // 6 and 8 by the right foot alone
        duePlan("1111111;cgi", NONE, 0, 0);
    }

    private static void promise15_threePedalsForTheLeftFootFourForTheRight() {
        // 3 by D sharp or E flat, 10 by B flat or A sharp: one of each foot
        duePlan("1111111;cdk", 2, 2, NONE);
        dueSettings("1111111;cdk", 1100111);
    }

    private static void promise15_toAnotherPositionIsOneMove() {
        // D from flat to sharp, or E flat
        duePlan("0111111;cd", 1, 2, NONE);
        // C from sharp to flat; B natural is there as well
        duePlan("1201111;cl", 1, 2, NONE);
    }

    private static void promise15_aheadOfAQuickOneNotMoreThanOne() {
        duePlan("1111111;qa", 0, 1, NONE);
        duePlan("1111111;qk", 1, 2, NONE);
        duePlan("1111111;qb", 1, 2, NONE);
        duePlan("1111111;qbk", NONE, 0, 0);
        // one ahead of the first, the other ahead of the second: D flat with B flat or A sharp, in this order;
        // C sharp with B flat, in either; C sharp with A sharp, in either or both ahead of the first
        duePlan("1111111;cc,qbk", 2, 1 + 1 + 2 + 3, NONE);
    }

    private static void promise15_aheadOfABoundOneNone() {
        duePlan("1111111;bace", 0, 1, NONE);
        duePlan("1111111;bb", NONE, 0, 0);
        duePlan("1111111;ca,bb", 1, 1, NONE);
        duePlan("1111111;bb,ca", NONE, 0, 0);
    }

    private static void promise15_behindAHeldOneItsPedalsStay() {
        // C sharp in one gap or the other, D flat in none
        duePlan("1111111;hc,cb", 1, 2, NONE);
        // not held: D flat in the second gap, too
        duePlan("1111111;cc,cb", 1, 3, NONE);
        duePlan("1111111;gbehk,ca", NONE, 0, 0);
    }

    private static void promise15_aBoundOneIsHeldToo() {
        duePlan("1111111;bc,cb", 1, 1, NONE);
        duePlan("1111111;bac,cb", NONE, 0, 1);
    }

    private static void promise15_bothPedalsOfAHeldToneStay() {
        // D flat and C sharp have tone 1: so D can't be natural
        duePlan("0211111;bb,cc", NONE, 0, 1);
        // not held: D is moved in either gap
        duePlan("0211111;cb,cc", 1, 2, NONE);
    }

    private static void promise15_heldInEachPosition() {
        // D flat stays, so there is no 2
        duePlan("0111111;bb,cc", NONE, 0, 1);
        // D natural stays, so 1 is by C sharp
        duePlan("1111111;bc,cb", 1, 1, NONE);
        // C sharp stays, so 0 is by B sharp
        duePlan("1211111;bb,ca", 1, 1, NONE);
    }

    private static void promise15_heldInTheNextGapAlone() {
        duePlan("1111111;bac,ca,cb", 1, 2, NONE);
        duePlan("1111111;bac,bl,cb", 1, 2, NONE);
    }

    private static void promise15_aHeldOneAtTheEndHoldsNothing() {
        duePlan("1111111;cc,hb", 1, 3, NONE);
        duePlan("1111111;hb", 1, 2, NONE);
    }

    private static void promise15_aGlissAndAQuickOneHoldNothing() {
        duePlan("0201012;gbehk,cd", 1, 2, NONE);
        duePlan("1111111;qc,cb", 1, 3, NONE);
    }

    private static void promise15_movesOfAllGapsTogether() {
        duePlan("0201012;gbehk,cd,gbehk", 2, 2, NONE);
        duePlan("0201012;gbehk,cd,gbehk,cd,gbehk", 4, 4, NONE);
        duePlan("0201012;gbehk,cd,gbehk,cd,gbehk,cd,gbehk,cd", 7, 16, NONE);
    }

    // ---- 16: "The SETTING for a CHORD in the BEST PLAN; NONE: there is none. UNKNOWN."

    private static void promise16_chordsFrom0ToTheLast() {
        dueSettings("1111111;ca,cc,ce,cf,ch,cj,cl,ca", 1111111, 1111111, 1111111, 1111111, 1111111, 1111111, 1111111,
            1111111, UNKNOWN);
        dueUnknownChords("setting", HarpPedals::setting);
    }

    private static void promise16_noneForAllChordsIfThereIsNoPlan() {
        dueSettings("1111111;ga", NONE, UNKNOWN);
        dueSettings("1111111;ca,cc,ga", NONE, NONE, NONE, UNKNOWN);
        dueSettings("1111111;ga,cc", NONE, NONE, UNKNOWN);
    }

    private static void promise16_theLeastSettingIs0() {
        dueSettings("0000000;cb", 0);
        dueSettings("1000000;cb", 0);
    }

    private static void promise16_theGreatestSettingIsAllSharp() {
        dueSettings("2222222;cd", 2222222);
    }

    private static void promise16_fewestMovesAreAheadOfALesserSetting() {
        dueSettings("1111111;cc", 1111111);
        // D flat would be less, but has to be natural again
        dueSettings("1111111;cb,cc", 1211111, 1211111);
    }

    private static void promise16_ofLikeOnesTheFirstIsTheLeast() {
        dueSettings("1111111;cb", 111111);
        // A flat is less than G sharp
        dueSettings("1111111;ci", 1111110);
    }

    private static void promise16_thenTheSecond() {
        dueSettings("1111111;cc,cb", 1111111, 111111);
        // moved down as early, up as late as can be
        dueSettings("1111111;cc,cc,ci", 1111110, 1111110, 1111110);
        dueSettings("1101111;cc,cc,cl", 1001111, 1001111, 1001111);
        dueSettings("1011110;ch,ch,ca", 1011110, 1011110, 1021110);
    }

    private static void promise16_movesOfAllChordsTogether() {
        // E flat and B flat at once: with another pedal there would be three moves in all
        dueSettings("1111111;cc,cdk", 1100111, 1100111);
    }

    private static void promise16_behindAHeldOne() {
        dueSettings("1111111;hc,cb", 1111111, 1211111);
        dueSettings("1111111;bc,cb", 1111111, 1211111);
        dueSettings("1211111;bb,ca", 1211111, 1221111);
        // D stays natural behind the second; so C is sharp then, or ahead of it
        dueSettings("1111111;cc,hc,cb", 1111111, 1111111, 1211111);
        // D stays sharp behind the second: E is flat for the first already, as 3 is asked for twice
        dueSettings("2111111;cd,hd,cc", 1110111, 1110111, 1110111);
        dueSettings("2111111;bd,hd,cc", NONE, NONE, NONE);
        // D stays natural behind the third, so E is flat; that is least ahead of the first, A flat next
        dueSettings("1111111;hc,ci,hc,cd", 1110111, 1110110, 1110110, 1110110);
    }

    private static void promise16_itChangesNothing() {
        dueWithoutChange(Edges.part("1111111;cc,cb"), "setting(1)", x -> x.setting(1), 111111);
        dueWithoutChange(Edges.part("1111111;cc,ga"), "setting(0)", x -> x.setting(0), NONE);
    }

    // ---- 17: "How many SETTINGS a CHORD can have in PLANS up to it (whatever comes behind it). UNKNOWN."

    private static void promise17_chordsFrom0ToTheLast() {
        dueReach("1111111;" + "bc,".repeat(7) + "bc", 1, 1, 1, 1, 1, 1, 1, 1, UNKNOWN);
        dueUnknownChords("reach", HarpPedals::reach);
    }

    private static void promise17_noneFromWhereItIsStuck() {
        dueReach("1111111;ba,bb,ca", 1, 0, 0, UNKNOWN);
        dueReach("1111111;ga", 0, UNKNOWN);
        dueReach("1111111;" + "bc,".repeat(7) + "bb", 1, 1, 1, 1, 1, 1, 1, 0);
    }

    private static void promise17_whateverComesBehindIt() {
        dueReach("1111111;cc", 45);
        dueReach("1111111;cc,ga", 45, 0);
        dueReach("1111111;cc,bb", 45, 9);
    }

    private static void promise17_oneOfThreePedalsAndOneOfFour() {
        // D natural: none or C or B, 2 positions each; none or one of four: 5 times 9
        dueReach("1111111;cc", 45);
        // G natural, A natural: 7 times 7
        dueReach("1111111;ch", 49);
        dueReach("1111111;cj", 49);
    }

    private static void promise17_aheadOfAQuickOneOnePedalInAll() {
        // none, or one of six others, 2 positions each
        dueReach("1111111;qc", 13);
        dueReach("1111111;qj", 13);
    }

    private static void promise17_aheadOfABoundOneNone() {
        dueReach("1111111;bc", 1);
        dueReach("1111111;cc,bc", 45, 45);
    }

    private static void promise17_behindAHeldOne() {
        // A and D stay: 5 times 7
        dueReach("1111111;bj,cc", 1, 35);
        // and one pedal in all: 1, 2 times 2, 3 times 2
        dueReach("1111111;bj,qc", 1, 11);
        dueReach("1111111;bj,bc", 1, 1);
    }

    private static void promise17_aPedalMayMoveToAHeldTone() {
        // C stays natural; B may be sharp, which is tone 0 too: 5 times 9
        dueReach("1111111;ba,ca", 1, 45);
    }

    private static void promise17_behindAHeldOneFromEachSetting() {
        int[][] tones = {{1, 2, 3}, {11, 0, 1}, {10, 11, 0}, {3, 4, 5}, {4, 5, 6}, {6, 7, 8}, {8, 9, 10}};
        for (int index = 0; index < 2187; index += 13) {
            String begin = String.format("%7s", Integer.toString(index, 3)).replace(' ', '0');
            for (int held = 0; held < 7; held++) {
                int tone = tones[held][begin.charAt(held) - '0'];
                int left = 0;
                int right = 0;
                for (int pedal = 0; pedal < 7; pedal++) {
                    boolean stays = tones[pedal][begin.charAt(pedal) - '0'] == tone;
                    left += !stays && pedal < 3 ? 1 : 0;
                    right += !stays && pedal >= 3 ? 1 : 0;
                }
                char letter = (char) ('a' + tone);
                // the pedal that stays has the tone; of the others one of each foot goes where it likes
                dueReach(begin + ";b" + letter + ",c" + letter, 1, (1 + 2 * left) * (1 + 2 * right));
                dueReach(begin + ";b" + letter + ",q" + letter, 1, 1 + 2 * left + 2 * right);
                dueReach(begin + ";b" + letter + ",b" + letter, 1, 1);
            }
        }
    }

    private static void promise17_theLeastAndTheGreatestSettingCountToo() {
        dueReach("0000000;bb", 1);
        dueReach("2222222;bb", 1);
    }

    private static void promise17_aGlissHasThoseThatTakeAll() {
        dueReach("0201011;gbehk", 1);
        dueReach("0201000;gbehk", 0);
    }

    private static void promise17_itChangesNothing() {
        dueWithoutChange(Edges.part("1111111;cc,ga"), "reach(0)", x -> x.reach(0), 45);
        dueWithoutChange(Edges.part("1111111;cc,ga"), "reach(1)", x -> x.reach(1), 0);
    }

    // ---- 18: "SHIFTED; NONE. OUTSIDE: by (0 to 11); STATE: no PART."

    private static void promise18_byFrom0To11() {
        int[] want = {0, 1, 0, 0, 1, 0, 1, 0, 1, 0, 0, 1};
        for (int by = 0; by < 12; by++) {
            int asked = by;
            dueWithoutChange(Edges.part("1111111;cc"), "shifted(" + by + ")", x -> x.shifted(asked), want[by]);
        }
        int[] outside = {-1, 12, 13, -12, LEAST, MOST};
        for (int by : outside) {
            dueWithoutChange(Edges::middling, "shifted(" + by + ")", x -> x.shifted(by), OUTSIDE);
            dueWithoutChange(Edges::full, "shifted(" + by + ")", x -> x.shifted(by), OUTSIDE);
        }
    }

    private static void promise18_noPart() {
        dueWithoutChange(HarpPedals::new, "shifted(0)", x -> x.shifted(0), STATE);
        dueWithoutChange(HarpPedals::new, "shifted(11)", x -> x.shifted(11), STATE);
    }

    private static void promise18_outsideIsToldAheadOfState() {
        dueWithoutChange(HarpPedals::new, "shifted(12)", x -> x.shifted(12), OUTSIDE);
        dueWithoutChange(HarpPedals::new, "shifted(-1)", x -> x.shifted(-1), OUTSIDE);
    }

    private static void promise18_noneIfThereIsNoPlanThen() {
        dueWithoutChange(Edges.part("1111111;bc"), "shifted(0)", x -> x.shifted(0), 0);
        dueWithoutChange(Edges.part("1111111;bc"), "shifted(1)", x -> x.shifted(1), NONE);
        dueWithoutChange(Edges.part("1111111;ga"), "shifted(11)", x -> x.shifted(11), NONE);
    }

    private static void promise18_of12Round() {
        due("11 and 1 is 0", Edges.read("1111111;bl").shifted(1), 0);
        due("11 and 11 is 10", Edges.read("1111111;bl").shifted(11), NONE);
        due("0 and 11 is 11", Edges.read("1111111;ba").shifted(11), 0);
        due("0 and 1 is 1", Edges.read("1111111;ba").shifted(1), NONE);
    }

    private static void promise18_allTonesOfAllChords() {
        due("three chords", Edges.read("1111111;bbd,bl,bgik").shifted(1), 0);
        due("one that can't be", Edges.read("1111111;bbd,bl,bgij").shifted(1), NONE);
    }

    private static void promise18_whatIsHeldIsShiftedToo() {
        // 2 is held then, and 3 to be had: E flat in either gap, but not D sharp
        due("by 1", Edges.read("1111111;hb,cc").shifted(1), 1);
        // C and D are held then, as 1 has to be had
        due("by 2", Edges.read("1111111;bak,cl").shifted(2), NONE);
        due("not held", Edges.read("1111111;cak,cl").shifted(2), 1);
    }

    private static void promise18_thePlanStays() {
        HarpPedals x = Edges.read("1111111;cc,cb");
        x.shifted(2);
        due("fewest", x.plan(0), 1);
        due("ways", x.plan(1), 3);
        due("reach", x.reach(0), 45);
        due("tones", x.chord(0, 1), 4);
    }

    // ---- 19: "LEAST SHIFT; NONE. STATE: no PART, or that was asked for 5 times."

    private static void promise19_theLeastIs0() {
        due("leastShift()", Edges.read("1111111;ba").leastShift(), 0);
        due("all alike", Edges.read("1111111;ba,ba").leastShift(), 0);
    }

    private static void promise19_theGreatestIs11() {
        // 0, 5 and 11 together are in no other key
        HarpPedals x = Edges.read("1111111;babg");
        for (int by = 0; by < 11; by++) {
            due("shifted(" + by + ")", x.shifted(by), NONE);
        }
        due("shifted(11)", x.shifted(11), 0);
        due("leastShift()", x.leastShift(), 11);
    }

    private static void promise19_ofLikeOnesTheLeast() {
        // flat pedals have 3 and 4 (by 1 and 2), but not 2
        due("leastShift()", Edges.read("0000000;cc").leastShift(), 1);
        // by 3, 6 and 9 it has the same tones
        due("the same again", Edges.read("0201012;gbehk").leastShift(), 0);
    }

    private static void promise19_fewestMovesAreAheadOfALesserShift() {
        // as it is by a move; 2 is at hand by 1
        due("leastShift()", Edges.read("1111111;cb").leastShift(), 1);
        due("some moves", Edges.read("0201011;gbehk").leastShift(), 0);
    }

    private static void promise19_noneIfNoShiftHasAPlan() {
        due("leastShift()", Edges.read("1111111;ga").leastShift(), NONE);
    }

    private static void promise19_noPart() {
        dueWithoutChange(HarpPedals::new, "leastShift()", HarpPedals::leastShift, STATE);
    }

    private static void promise19_refusedOnesAreNotCounted() {
        HarpPedals x = new HarpPedals();
        for (int i = 0; i < 6; i++) {
            due("without a part", x.leastShift(), STATE);
        }
        due("asked", x.count(6), 0);
        Edges.write(x, "1111111;ca");
        x.part();
        for (int i = 1; i <= 5; i++) {
            due("time " + i, x.leastShift(), 0);
        }
        due("time 6", x.leastShift(), STATE);
        due("asked then", x.count(6), 5);
    }

    private static void promise19_theFifthTimeIsTheLast() {
        HarpPedals x = Edges.read("1111111;cb");
        for (int i = 1; i <= 5; i++) {
            due("time " + i, x.leastShift(), 1);
            due("asked", x.count(6), i);
        }
        due("time 6", x.leastShift(), STATE);
        due("time 7", x.leastShift(), STATE);
        dueWithoutChange(Edges::full, "time 6", HarpPedals::leastShift, STATE);
    }

    private static void promise19_noneIsAskedForToo() {
        HarpPedals x = Edges.read("1111111;ga");
        for (int i = 1; i <= 5; i++) {
            due("time " + i, x.leastShift(), NONE);
        }
        due("time 6", x.leastShift(), STATE);
    }

    private static void promise19_neitherAnImageNorAnotherPartGivesThemBack() {
        HarpPedals x = Edges.read("1111111;ca");
        x.image();
        for (int i = 0; i < 5; i++) {
            x.leastShift();
        }
        x.restore();
        due("behind restore()", x.leastShift(), STATE);
        Edges.write(x, "1111111;ca");
        x.part();
        due("behind part()", x.leastShift(), STATE);
        due("asked", x.count(6), 5);
    }

    private static void promise19_theTonesAndThePlanStay() {
        HarpPedals x = Edges.read("1111111;cc,cb");
        x.leastShift();
        due("tones", x.chord(0, 1), 4);
        due("fewest", x.plan(0), 1);
        due("ways", x.plan(1), 3);
        due("reach", x.reach(0), 45);
        due("setting", x.setting(1), 111111);
    }

    // ---- 20: "FREE; NONE. STATE: no PART."

    private static void promise20_noPart() {
        dueWithoutChange(HarpPedals::new, "free()", HarpPedals::free, STATE);
    }

    private static void promise20_theLeastIs0() {
        dueWithoutChange(Edges.part("1111111;cb"), "free()", HarpPedals::free, 0);
    }

    private static void promise20_noneIfNoBeginHasAPlan() {
        dueWithoutChange(Edges.part("1111111;ga"), "no setting fits", HarpPedals::free, NONE);
        // the glissando has one setting, without tone 3; nothing can be moved ahead of a bound one
        dueWithoutChange(Edges.part("1111111;gbehk,bd"), "no plan", HarpPedals::free, NONE);
    }

    private static void promise20_ofLikeOnesTheLeastNumber() {
        dueWithoutChange(Edges.part("2222222;cc"), "D natural", HarpPedals::free, 1000000);
        dueWithoutChange(Edges.part("2222222;ca"), "B sharp", HarpPedals::free, 20000);
        dueWithoutChange(Edges.part("2222222;cj"), "A natural", HarpPedals::free, 1);
    }

    private static void promise20_fewestMovesAreAheadOfALesserNumber() {
        // 0 has 1, but not 2: C sharp and D natural have both
        dueWithoutChange(Edges.part("1111111;cb,cc"), "free()", HarpPedals::free, 1200000);
    }

    private static void promise20_fewestMayBeMoreThan0() {
        dueWithoutChange(Edges.part("1111111;gbehk,cd"), "free()", HarpPedals::free, 201012);
    }

    private static void promise20_thoughThereIsNoPlanFromWhereItBegins() {
        dueWithoutChange(Edges.part("1111111;bb,bb"), "free()", HarpPedals::free, 0);
        due("it begins as before", Edges.read("1111111;bb,bb").count(1), 1111111);
    }

    private static void promise20_itDoesNotGoByTheBegin() {
        for (int position = 0; position < 3; position++) {
            HarpPedals x = Edges.read("1111111;cc,ha,qb");
            int before = x.free();
            for (int pedal = 0; pedal < 7; pedal++) {
                x.press(pedal, position);
            }
            due("free()", x.free(), before);
        }
    }

    private static void promise20_toBeginWithItHasFewestMoves() {
        HarpPedals x = Edges.read("1111111;cb,cc");
        String free = String.format("%07d", x.free());
        for (int pedal = 0; pedal < 7; pedal++) {
            x.press(pedal, free.charAt(pedal) - '0');
        }
        due("fewest", x.plan(0), 0);
    }
}
