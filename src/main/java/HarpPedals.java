import java.util.Arrays;

/** A harp with seven pedals, a part to be played on it, and what it takes to play it. */
public final class HarpPedals {
    public static final int NONE = -1, UNKNOWN = -101, OUTSIDE = -102, STATE = -103, FULL = -104;

    private static final int PEDALS = 7;
    private static final int FIRST_OF_RIGHT = 3;
    private static final int POSITIONS = 3;
    private static final int SETTINGS = 2187;
    private static final int OCTAVE = 12;
    private static final int ALL_TONES = 4095;

    private static final int CHORD = 0;
    private static final int GLISS = 1;
    private static final int HELD = 2;
    private static final int QUICK = 3;
    private static final int BOUND = 4;
    private static final int KINDS = 5;

    private static final int MOST_LETTERS = 56;
    private static final int MOST_CODE = 126;
    private static final int MOST_CHORDS = 8;
    private static final int MOST_TONES = 4;
    private static final int MOST_SEEN = 6;
    private static final int MOST_SHIFTS_ASKED = 5;
    private static final int MOST_TIMES = 30;
    private static final int CHORD_WHATS = 6;
    private static final int PLAN_WHATS = 3;
    private static final int DRAWN_WHATS = 3;
    private static final int COUNT_WHATS = 7;

    private final Page page = new Page();
    private final Reader reader = new Reader();
    private final Part played = new Part();
    private final Part keptPart = new Part();
    private final Seen seen = new Seen();
    private final Seen keptSeen = new Seen();
    private final Settings settings = new Settings();
    private final Planner planner = new Planner(settings);
    private final Player player = new Player(settings);
    private int partsRead;
    private int shiftsAsked;

    public HarpPedals() {
    }

    // ---- the part

    public int letter(int code) {
        if (code < 1 || code > MOST_CODE) {
            return OUTSIDE;
        }
        return page.append(code) ? page.size : FULL;
    }

    public int blank() {
        return page.clear();
    }

    public int fault() {
        return page.readBy(reader);
    }

    public int part() {
        if (page.readBy(reader) < page.size || !reader.isWhole()) {
            return STATE;
        }
        played.become(reader.draft);
        planner.makeStale();
        seen.clear();
        keptPart.clear();
        page.clear();
        partsRead++;
        return played.size;
    }

    public int chord(int chord, int what) {
        if (!played.has(chord)) {
            return UNKNOWN;
        }
        switch (what) {
            case 0:
                return played.kinds[chord];
            case 1:
                return played.tones[chord];
            case 2:
                return settings.howManyFit(played.kinds[chord], played.tones[chord]);
            case 3:
                return settings.leastThatFits(played.kinds[chord], played.tones[chord]);
            case 4:
                return seen.sortsOf(chord);
            case 5:
                return seen.nextQuestion(chord);
            default:
                return OUTSIDE;
        }
    }

    public int as(int chord, int kind) {
        if (!played.has(chord)) {
            return UNKNOWN;
        }
        if (!isKind(kind)) {
            return OUTSIDE;
        }
        int own = played.kinds[chord];
        boolean such = kind == CHORD || kind == own || kind == HELD && isHeld(own);
        return such ? chord : NONE;
    }

    public int tone(int pedal, int position) {
        if (!isPedal(pedal)) {
            return UNKNOWN;
        }
        return isPosition(position) ? Settings.toneAt(pedal, position) : OUTSIDE;
    }

    // ---- what is done

    public int press(int pedal, int position) {
        if (!isPedal(pedal)) {
            return UNKNOWN;
        }
        if (!isPosition(position)) {
            return OUTSIDE;
        }
        if (played.size == 0) {
            return STATE;
        }
        played.begin = Settings.moved(played.begin, pedal, position);
        planner.makeStale();
        return Settings.numberOf(played.begin);
    }

    public int put(int place, int kind, int tones) {
        if (place < 0 || place > played.size) {
            return UNKNOWN;
        }
        if (!isKind(kind) || !areTones(tones)) {
            return OUTSIDE;
        }
        if (played.size == 0) {
            return STATE;
        }
        if (!played.insert(place, kind, tones)) {
            return FULL;
        }
        planner.makeStale();
        return played.size;
    }

    public int take(int chord) {
        if (!played.has(chord)) {
            return UNKNOWN;
        }
        if (played.size == 1) {
            return STATE;
        }
        played.remove(chord);
        planner.makeStale();
        return played.size;
    }

    public int swap(int one, int other) {
        if (!played.has(one) || !played.has(other) || one == other) {
            return UNKNOWN;
        }
        played.exchange(one, other);
        planner.makeStale();
        return planner.fewest(played, 0);
    }

    public int change(int chord, int kind) {
        if (!played.has(chord)) {
            return UNKNOWN;
        }
        if (!isKind(kind)) {
            return OUTSIDE;
        }
        int before = played.kinds[chord];
        played.kinds[chord] = kind;
        planner.makeStale();
        return before;
    }

    public int shift(int by) {
        if (!isShift(by)) {
            return OUTSIDE;
        }
        if (played.size == 0) {
            return STATE;
        }
        played.raise(by);
        planner.makeStale();
        return planner.fewest(played, 0);
    }

    // ---- what would be

    public int plan(int what) {
        if (what < 0 || what >= PLAN_WHATS) {
            return OUTSIDE;
        }
        if (played.size == 0) {
            return STATE;
        }
        switch (what) {
            case 0:
                return planner.fewest(played, 0);
            case 1:
                return planner.ways(played);
            default:
                return planner.stuckAt(played);
        }
    }

    public int setting(int chord) {
        return played.has(chord) ? planner.bestSetting(played, chord) : UNKNOWN;
    }

    public int reach(int chord) {
        return played.has(chord) ? planner.howManyReached(played, chord) : UNKNOWN;
    }

    public int shifted(int by) {
        if (!isShift(by)) {
            return OUTSIDE;
        }
        return played.size == 0 ? STATE : planner.fewest(played, by);
    }

    public int leastShift() {
        if (played.size == 0 || shiftsAsked >= MOST_SHIFTS_ASKED) {
            return STATE;
        }
        shiftsAsked++;
        int least = NONE;
        int leastMoves = Planner.NO_PLAN;
        for (int by = 0; by < OCTAVE; by++) {
            int moves = planner.fewest(played, by);
            if (moves != NONE && moves < leastMoves) {
                least = by;
                leastMoves = moves;
            }
        }
        return least;
    }

    public int free() {
        return played.size == 0 ? STATE : planner.bestBegin(played);
    }

    // ---- what is seen

    public int see(int chord, int what, boolean could) {
        if (!played.has(chord)) {
            return UNKNOWN;
        }
        if (what < 0 || what >= Seen.QUESTIONS) {
            return OUTSIDE;
        }
        return seen.add(chord, what, could) ? seen.size : FULL;
    }

    public int forget() {
        return seen.clear();
    }

    public int drawn(int times, int seed, int what) {
        if (times < 1 || times > MOST_TIMES || seed < 0 || what < 0 || what >= DRAWN_WHATS) {
            return OUTSIDE;
        }
        if (played.size == 0) {
            return STATE;
        }
        player.playDrawn(played.begin, times, seed);
        switch (what) {
            case 0:
                return player.chordsPlayed;
            case 1:
                return player.moves;
            default:
                return player.seed;
        }
    }

    // ---- what is told of all

    public int image() {
        if (played.size == 0) {
            return STATE;
        }
        keptPart.become(played);
        keptSeen.become(seen);
        return played.size;
    }

    public int restore() {
        if (keptPart.size == 0) {
            return STATE;
        }
        played.become(keptPart);
        seen.become(keptSeen);
        planner.makeStale();
        return played.size;
    }

    public int count(int what) {
        switch (what) {
            case 0:
                return played.size;
            case 1:
                return played.size == 0 ? NONE : Settings.numberOf(played.begin);
            case 2:
                return Integer.bitCount(played.tonesOfAll());
            case 3:
                return seen.size;
            case 4:
                return page.size;
            case 5:
                return partsRead;
            case 6:
                return shiftsAsked;
            default:
                return OUTSIDE;
        }
    }

    public long digest() {
        long h = 1423;
        for (int chord = 0; chord < played.size; chord++) {
            for (int what = 0; what < CHORD_WHATS; what++) {
                h = 31 * h + chord(chord, what);
            }
            h = 31 * h + planner.bestSetting(played, chord);
            h = 31 * h + planner.howManyReached(played, chord);
        }
        if (played.size > 0) {
            for (int what = 0; what < PLAN_WHATS; what++) {
                h = 31 * h + plan(what);
            }
        }
        for (int place = 0; place < page.size; place++) {
            h = 31 * h + page.codes[place];
        }
        for (int what = 0; what < COUNT_WHATS; what++) {
            h = 31 * h + count(what);
        }
        return h;
    }

    private static boolean isPedal(int pedal) {
        return pedal >= 0 && pedal < PEDALS;
    }

    private static boolean isPosition(int position) {
        return position >= 0 && position < POSITIONS;
    }

    private static boolean isKind(int kind) {
        return kind >= 0 && kind < KINDS;
    }

    private static boolean isShift(int by) {
        return by >= 0 && by < OCTAVE;
    }

    private static boolean areTones(int tones) {
        return tones > 0 && tones <= ALL_TONES && Integer.bitCount(tones) <= MOST_TONES;
    }

    private static boolean isHeld(int kind) {
        return kind == HELD || kind == BOUND;
    }

    /** Tones as bits, all so much more, of 12 round. */
    private static int raised(int tones, int by) {
        return (tones << by | tones >> OCTAVE - by) & ALL_TONES;
    }

    /** The letters that have come, not yet read as a part. */
    private static final class Page {
        private final int[] codes = new int[MOST_LETTERS];
        private int size;

        boolean append(int code) {
            if (size >= MOST_LETTERS) {
                return false;
            }
            codes[size] = code;
            size++;
            return true;
        }

        int clear() {
            int had = size;
            size = 0;
            return had;
        }

        /** How many letters the reader takes before the first that no part has there. */
        int readBy(Reader reader) {
            reader.restart();
            for (int place = 0; place < size; place++) {
                if (!reader.accept(codes[place])) {
                    return place;
                }
            }
            return size;
        }
    }

    /** Makes a part of letters that come one by one. */
    private static final class Reader {
        private final Part draft = new Part();
        private int lettersRead;
        private boolean kindIsDue;

        void restart() {
            draft.clear();
            lettersRead = 0;
            kindIsDue = true;
        }

        boolean accept(int code) {
            boolean accepted;
            if (lettersRead < PEDALS) {
                accepted = acceptPosition(code);
            } else if (lettersRead == PEDALS) {
                accepted = code == ';';
            } else if (kindIsDue) {
                accepted = acceptKind(code);
            } else {
                accepted = acceptTone(code) || acceptComma(code);
            }
            if (accepted) {
                lettersRead++;
            }
            return accepted;
        }

        boolean isWhole() {
            return !kindIsDue && draft.tonesOfLast() != 0;
        }

        private boolean acceptPosition(int code) {
            int position = code - '0';
            if (!isPosition(position)) {
                return false;
            }
            draft.begin = draft.begin * POSITIONS + position;
            return true;
        }

        private boolean acceptKind(int code) {
            int kind = kindOf(code);
            if (kind == NONE) {
                return false;
            }
            kindIsDue = false;
            return draft.insert(draft.size, kind, 0);
        }

        private boolean acceptTone(int code) {
            int tone = code - 'a';
            int before = draft.tonesOfLast();
            if (tone < 0 || tone >= OCTAVE || Integer.bitCount(before) >= MOST_TONES) {
                return false;
            }
            // a bit at the tone or above it means that the tone is not greater than the last one
            if (before >> tone != 0) {
                return false;
            }
            draft.addToLast(1 << tone);
            return true;
        }

        private boolean acceptComma(int code) {
            if (code != ',' || draft.tonesOfLast() == 0 || draft.size >= MOST_CHORDS) {
                return false;
            }
            kindIsDue = true;
            return true;
        }

        private static int kindOf(int code) {
            switch (code) {
                case 'c':
                    return CHORD;
                case 'g':
                    return GLISS;
                case 'h':
                    return HELD;
                case 'q':
                    return QUICK;
                case 'b':
                    return BOUND;
                default:
                    return NONE;
            }
        }
    }

    /** The setting with which it begins and the chords; without a chord it is no part. */
    private static final class Part {
        private int begin;
        private int size;
        private final int[] kinds = new int[MOST_CHORDS];
        private final int[] tones = new int[MOST_CHORDS];

        boolean has(int chord) {
            return chord >= 0 && chord < size;
        }

        void clear() {
            begin = 0;
            size = 0;
        }

        void become(Part other) {
            begin = other.begin;
            size = other.size;
            System.arraycopy(other.kinds, 0, kinds, 0, MOST_CHORDS);
            System.arraycopy(other.tones, 0, tones, 0, MOST_CHORDS);
        }

        boolean insert(int place, int kind, int itsTones) {
            if (size >= MOST_CHORDS || place < 0 || place > size) {
                return false;
            }
            for (int chord = size; chord > place; chord--) {
                kinds[chord] = kinds[chord - 1];
                tones[chord] = tones[chord - 1];
            }
            kinds[place] = kind;
            tones[place] = itsTones;
            size++;
            return true;
        }

        void remove(int place) {
            if (!has(place)) {
                return;
            }
            size--;
            for (int chord = place; chord < size; chord++) {
                kinds[chord] = kinds[chord + 1];
                tones[chord] = tones[chord + 1];
            }
        }

        void exchange(int one, int other) {
            if (!has(one) || !has(other)) {
                return;
            }
            int kind = kinds[one];
            kinds[one] = kinds[other];
            kinds[other] = kind;
            int itsTones = tones[one];
            tones[one] = tones[other];
            tones[other] = itsTones;
        }

        void raise(int by) {
            for (int chord = 0; chord < size; chord++) {
                tones[chord] = raised(tones[chord], by);
            }
        }

        int tonesOfLast() {
            return size == 0 ? 0 : tones[size - 1];
        }

        void addToLast(int bits) {
            if (size > 0) {
                tones[size - 1] |= bits;
            }
        }

        int tonesOfAll() {
            int all = 0;
            for (int chord = 0; chord < size; chord++) {
                all |= tones[chord];
            }
            return all;
        }
    }

    /** What was seen of chords, by their numbers. */
    private static final class Seen {
        static final int QUESTIONS = 4;
        private static final int ALL_KINDS = 31;
        // for each question the kinds, as bits, of which it could be so:
        // all but GLISS; all but HELD and BOUND; all but QUICK and BOUND; all but BOUND
        private static final int[] KINDS_THAT_COULD = {29, 11, 7, 15};

        private int size;
        private final int[] chords = new int[MOST_SEEN];
        private final int[] kindsLeft = new int[MOST_SEEN];

        boolean add(int chord, int question, boolean could) {
            if (size >= MOST_SEEN || question < 0 || question >= QUESTIONS) {
                return false;
            }
            int kinds = KINDS_THAT_COULD[question];
            chords[size] = chord;
            kindsLeft[size] = could ? kinds : ALL_KINDS & ~kinds;
            size++;
            return true;
        }

        int clear() {
            int had = size;
            size = 0;
            return had;
        }

        void become(Seen other) {
            size = other.size;
            System.arraycopy(other.chords, 0, chords, 0, MOST_SEEN);
            System.arraycopy(other.kindsLeft, 0, kindsLeft, 0, MOST_SEEN);
        }

        int sortsOf(int chord) {
            int sorts = ALL_KINDS;
            for (int i = 0; i < size; i++) {
                if (chords[i] == chord) {
                    sorts &= kindsLeft[i];
                }
            }
            return sorts;
        }

        int nextQuestion(int chord) {
            int sorts = sortsOf(chord);
            if (sorts == 0) {
                return NONE;
            }
            int next = NONE;
            int fewestLeft = KINDS + 1;
            for (int question = 0; question < QUESTIONS; question++) {
                int left = leftAtWorst(sorts, KINDS_THAT_COULD[question]);
                if (left < fewestLeft) {
                    next = question;
                    fewestLeft = left;
                }
            }
            return next;
        }

        private static int leftAtWorst(int sorts, int kindsThatCould) {
            return Math.max(Integer.bitCount(sorts & kindsThatCould), Integer.bitCount(sorts & ~kindsThatCould));
        }
    }

    /**
     * All settings. Each is known by its seven digits read to the base 3, pedal 0 first:
     * so they stand in the order of their numbers.
     */
    private static final class Settings {
        private static final int[] NATURAL_TONES = {2, 0, 11, 4, 5, 7, 9};
        private static final int[] WEIGHTS = {729, 243, 81, 27, 9, 3, 1};

        private final int[] tonesOf = new int[SETTINGS];

        Settings() {
            for (int setting = 0; setting < SETTINGS; setting++) {
                tonesOf[setting] = tonesOfPedals(setting);
            }
        }

        boolean fits(int setting, int kind, int tones) {
            int has = tonesOf[setting];
            return kind == GLISS ? has == tones : (has & tones) == tones;
        }

        int howManyFit(int kind, int tones) {
            int many = 0;
            for (int setting = 0; setting < SETTINGS; setting++) {
                if (fits(setting, kind, tones)) {
                    many++;
                }
            }
            return many;
        }

        int leastThatFits(int kind, int tones) {
            for (int setting = 0; setting < SETTINGS; setting++) {
                if (fits(setting, kind, tones)) {
                    return numberOf(setting);
                }
            }
            return NONE;
        }

        static boolean isSetting(int setting) {
            return setting >= 0 && setting < SETTINGS;
        }

        /** The tone of a pedal 0 to 6 in a position 0 to 2. */
        static int toneAt(int pedal, int position) {
            return (NATURAL_TONES[pedal] + position + OCTAVE - 1) % OCTAVE;
        }

        // a case for each pedal, so that all divisors are constants
        static int positionAt(int setting, int pedal) {
            switch (pedal) {
                case 0:
                    return setting / 729;
                case 1:
                    return setting / 243 % POSITIONS;
                case 2:
                    return setting / 81 % POSITIONS;
                case 3:
                    return setting / 27 % POSITIONS;
                case 4:
                    return setting / 9 % POSITIONS;
                case 5:
                    return setting / 3 % POSITIONS;
                default:
                    return setting % POSITIONS;
            }
        }

        static int moved(int setting, int pedal, int position) {
            return setting + (position - positionAt(setting, pedal)) * WEIGHTS[pedal];
        }

        static int numberOf(int setting) {
            int number = 0;
            for (int pedal = 0; pedal < PEDALS; pedal++) {
                number = number * 10 + positionAt(setting, pedal);
            }
            return number;
        }

        private static int tonesOfPedals(int setting) {
            int tones = 0;
            for (int pedal = 0; pedal < PEDALS; pedal++) {
                tones |= 1 << toneAt(pedal, positionAt(setting, pedal));
            }
            return tones;
        }
    }

    /** What can be moved between two chords. */
    private static final class Gap {
        private int mostMoves;
        // a bit for each pedal and position: that pedal, when in that position, stays in it
        private int held;

        /** The gap ahead of a chord of that kind; the tones held over from the chord before it. */
        void set(int kind, int tonesHeld) {
            mostMoves = kind == BOUND ? 0 : kind == QUICK ? 1 : 2;
            held = 0;
            for (int pedal = 0; pedal < PEDALS; pedal++) {
                for (int position = 0; position < POSITIONS; position++) {
                    int bit = tonesHeld >> Settings.toneAt(pedal, position) & 1;
                    held |= bit << pedal * POSITIONS + position;
                }
            }
        }

        boolean holds(int pedal, int position) {
            return (held >> pedal * POSITIONS + position & 1) != 0;
        }

        /** How many pedals are moved from one setting to another; NONE, if they can't be. */
        int movesBetween(int from, int to) {
            int left = 0;
            int right = 0;
            for (int pedal = 0; pedal < PEDALS; pedal++) {
                int position = Settings.positionAt(from, pedal);
                if (position != Settings.positionAt(to, pedal)) {
                    if (holds(pedal, position)) {
                        return NONE;
                    }
                    if (pedal < FIRST_OF_RIGHT) {
                        left++;
                    } else {
                        right++;
                    }
                    if (left > 1 || right > 1) {
                        return NONE;
                    }
                }
            }
            return left + right <= mostMoves ? left + right : NONE;
        }
    }

    /**
     * Finds plans. A row has a score for each setting: the fewest moves in its upper bits, in
     * its lower ones in how many ways, as its rest by 1000003; NO_PLAN, if there is none.
     */
    private static final class Planner {
        static final int NO_PLAN = 1 << 30;
        private static final int WAYS_BITS = 20;
        private static final int WAYS_MASK = (1 << WAYS_BITS) - 1;
        private static final int ONE_MOVE = 1 << WAYS_BITS;
        private static final int WAYS_REST = 1000003;
        private static final int ONE_WAY = 1;
        private static final int STALE = -1;

        private final Settings settings;
        private final Gap gap = new Gap();
        private final int[] oneRow = new int[SETTINGS];
        private final int[] otherRow = new int[SETTINGS];
        private final int[] halfway = new int[SETTINGS];
        private final int[][] onward = new int[MOST_CHORDS][SETTINGS];
        private final int[] reached = new int[MOST_CHORDS];
        private final int[] best = new int[MOST_CHORDS];
        private int begin;
        private int score;
        private int shiftOfScore = STALE;
        private boolean bestIsKnown;

        Planner(Settings settings) {
            this.settings = settings;
        }

        void makeStale() {
            shiftOfScore = STALE;
            bestIsKnown = false;
        }

        int fewest(Part part, int by) {
            goForward(part, by);
            return score == NO_PLAN ? NONE : score >> WAYS_BITS;
        }

        int ways(Part part) {
            goForward(part, 0);
            return score == NO_PLAN ? 0 : score & WAYS_MASK;
        }

        int stuckAt(Part part) {
            goForward(part, 0);
            for (int chord = 0; chord < part.size; chord++) {
                if (reached[chord] == 0) {
                    return chord;
                }
            }
            return NONE;
        }

        int howManyReached(Part part, int chord) {
            goForward(part, 0);
            return part.has(chord) ? reached[chord] : 0;
        }

        int bestSetting(Part part, int chord) {
            findBest(part);
            boolean isThere = part.has(chord) && best[chord] != NONE;
            return isThere ? Settings.numberOf(best[chord]) : NONE;
        }

        int bestBegin(Part part) {
            findBest(part);
            return begin == NONE ? NONE : Settings.numberOf(begin);
        }

        /** Scores the plans up to each chord, if all tones were so much more. */
        private void goForward(Part part, int by) {
            if (shiftOfScore == by) {
                return;
            }
            int[] from = oneRow;
            int[] to = otherRow;
            Arrays.fill(from, NO_PLAN);
            if (Settings.isSetting(part.begin)) {
                from[part.begin] = ONE_WAY;
            }
            for (int chord = 0; chord < part.size; chord++) {
                setGapAheadOf(part, chord, by);
                cross(from, to, part.kinds[chord], raised(part.tones[chord], by), true);
                reached[chord] = howManyScored(to);
                int[] row = from;
                from = to;
                to = row;
            }
            score = bestScore(from);
            shiftOfScore = by;
        }

        private void findBest(Part part) {
            if (!bestIsKnown) {
                goBackward(part);
                // a begin other than the first chord's setting takes moves that one with it spares
                begin = part.size == 0 ? NONE : settingOfBestScore(onward[0]);
                followBest(part);
                bestIsKnown = true;
            }
        }

        /** Scores, for each chord and setting that fits it, what comes behind it. */
        private void goBackward(Part part) {
            int last = part.size - 1;
            if (last < 0) {
                return;
            }
            for (int setting = 0; setting < SETTINGS; setting++) {
                boolean fits = settings.fits(setting, part.kinds[last], part.tones[last]);
                onward[last][setting] = fits ? ONE_WAY : NO_PLAN;
            }
            for (int chord = last; chord > 0; chord--) {
                setGapAheadOf(part, chord, 0);
                cross(onward[chord], onward[chord - 1], part.kinds[chord - 1], part.tones[chord - 1], false);
            }
        }

        private void followBest(Part part) {
            int setting = part.begin;
            for (int chord = 0; chord < part.size; chord++) {
                if (setting != NONE) {
                    setGapAheadOf(part, chord, 0);
                    setting = bestNext(setting, onward[chord]);
                }
                best[chord] = setting;
            }
        }

        private int bestNext(int setting, int[] row) {
            int next = NONE;
            int fewestMoves = NO_PLAN;
            for (int to = 0; to < SETTINGS; to++) {
                int later = row[to] >> WAYS_BITS;
                if (row[to] != NO_PLAN && later < fewestMoves) {
                    int moves = gap.movesBetween(setting, to);
                    if (moves != NONE && moves + later < fewestMoves) {
                        next = to;
                        fewestMoves = moves + later;
                    }
                }
            }
            return next;
        }

        private void setGapAheadOf(Part part, int chord, int by) {
            boolean isBehindHeld = chord > 0 && isHeld(part.kinds[chord - 1]);
            gap.set(part.kinds[chord], isBehindHeld ? raised(part.tones[chord - 1], by) : 0);
        }

        /**
         * Takes the scores over the gap, to the settings that fit the chord told: ahead, from
         * the earlier chord to the later one; else the other way.
         */
        private void cross(int[] from, int[] to, int kind, int tones, boolean ahead) {
            int most = gap.mostMoves;
            int[] source = from;
            if (most == 2) {
                // the feet are free of each other: first the right one moves, then the left one
                System.arraycopy(from, 0, halfway, 0, SETTINGS);
                spreadByRight(from, ahead);
                source = halfway;
            }
            int pedals = most == 0 ? 0 : most == 1 ? PEDALS : FIRST_OF_RIGHT;
            for (int setting = 0; setting < SETTINGS; setting++) {
                boolean fits = settings.fits(setting, kind, tones);
                to[setting] = fits ? gathered(source, setting, pedals, ahead) : NO_PLAN;
            }
        }

        /** Adds to halfway what one pedal of the right foot makes of each score. */
        private void spreadByRight(int[] from, boolean ahead) {
            for (int setting = 0; setting < SETTINGS; setting++) {
                if (from[setting] == NO_PLAN) {
                    continue;
                }
                int moved = from[setting] + ONE_MOVE;
                for (int pedal = FIRST_OF_RIGHT; pedal < PEDALS; pedal++) {
                    int position = Settings.positionAt(setting, pedal);
                    for (int other = 0; other < POSITIONS; other++) {
                        // what is held is held in the setting of the earlier chord
                        if (other != position && !gap.holds(pedal, ahead ? position : other)) {
                            int to = setting + (other - position) * Settings.WEIGHTS[pedal];
                            halfway[to] = joined(halfway[to], moved);
                        }
                    }
                }
            }
        }

        /** The score of a setting come to by none or one of the first pedals. */
        private int gathered(int[] source, int setting, int pedals, boolean ahead) {
            int sum = source[setting];
            for (int pedal = 0; pedal < pedals; pedal++) {
                int position = Settings.positionAt(setting, pedal);
                for (int other = 0; other < POSITIONS; other++) {
                    if (other != position && !gap.holds(pedal, ahead ? other : position)) {
                        int before = source[setting + (other - position) * Settings.WEIGHTS[pedal]];
                        if (before != NO_PLAN) {
                            sum = joined(sum, before + ONE_MOVE);
                        }
                    }
                }
            }
            return sum;
        }

        private static int joined(int one, int other) {
            if (one >> WAYS_BITS != other >> WAYS_BITS) {
                return one < other ? one : other;
            }
            int ways = ((one & WAYS_MASK) + (other & WAYS_MASK)) % WAYS_REST;
            return one & ~WAYS_MASK | ways;
        }

        private static int howManyScored(int[] row) {
            int many = 0;
            for (int setting = 0; setting < SETTINGS; setting++) {
                if (row[setting] != NO_PLAN) {
                    many++;
                }
            }
            return many;
        }

        private static int bestScore(int[] row) {
            int all = NO_PLAN;
            for (int setting = 0; setting < SETTINGS; setting++) {
                if (row[setting] != NO_PLAN) {
                    all = joined(all, row[setting]);
                }
            }
            return all;
        }

        private static int settingOfBestScore(int[] row) {
            int found = NONE;
            int fewestMoves = NO_PLAN >> WAYS_BITS;
            for (int setting = 0; setting < SETTINGS; setting++) {
                if (row[setting] >> WAYS_BITS < fewestMoves) {
                    found = setting;
                    fewestMoves = row[setting] >> WAYS_BITS;
                }
            }
            return found;
        }
    }

    /** Plays chords drawn by a seed. */
    private static final class Player {
        private final Settings settings;
        private final Gap gap = new Gap();
        private int seed;
        private int setting;
        private int chordsPlayed;
        private int moves;

        Player(Settings settings) {
            this.settings = settings;
        }

        void playDrawn(int begin, int times, int firstSeed) {
            seed = firstSeed;
            setting = begin;
            chordsPlayed = 0;
            moves = 0;
            gap.set(CHORD, 0);
            for (int i = 0; i < times; i++) {
                int tone = nextDraw() % OCTAVE;
                int other = (tone + nextDraw() % (OCTAVE - 1) + 1) % OCTAVE;
                playChord(1 << tone | 1 << other);
            }
        }

        private void playChord(int tones) {
            int next = NONE;
            int fewestMoves = PEDALS;
            for (int to = 0; to < SETTINGS; to++) {
                if (settings.fits(to, CHORD, tones)) {
                    int needed = gap.movesBetween(setting, to);
                    if (needed != NONE && needed < fewestMoves) {
                        next = to;
                        fewestMoves = needed;
                    }
                }
            }
            if (next != NONE) {
                setting = next;
                chordsPlayed++;
                moves += fewestMoves;
            }
        }

        private int nextDraw() {
            seed = (int) (1103515245L * seed + 12345L & Integer.MAX_VALUE);
            return seed / 65536;
        }
    }
}
