import java.util.ArrayList;
import java.util.Arrays;
import java.util.HashMap;
import java.util.HashSet;
import java.util.List;
import java.util.Map;
import java.util.Random;
import java.util.Set;
import java.util.TreeMap;
import java.util.TreeSet;

/**
 * Runs of calls by a seed, each answer against a plain model of the document: settings are texts,
 * plans are followed one setting at a time, ways are counted whole.
 */
public final class ModelTest {
    private static final int RUNS = 260;
    private static final int CALLS = 60;
    private static final int LONG_RUNS = 8;
    private static final int MOST_CALLS = 512;
    // blank(), 55 letters, fault(), part(), and then one more turn
    private static final int CALLS_TO_WRITE = 60;
    private static int wrong = 0;
    private static int asked = 0;

    public static void main(String[] args) {
        for (int run = 0; run < RUNS && wrong < 20; run++) {
            oneRun(run);
        }
        for (int run = 0; run < LONG_RUNS && wrong < 20; run++) {
            longRun(RUNS + run);
        }
        waysBeyondTheRest();
        System.out.println(asked + " answers, " + wrong + " wrong");
        if (wrong != 0) {
            System.exit(1);
        }
    }

    private static void due(String what, long got, long want) {
        asked++;
        if (got != want) {
            wrong++;
            System.out.println(what + " answered " + got + ", due is " + want);
        }
    }

    private static void waysBeyondTheRest() {
        String[] texts = {"0010121;cl,cg,ce,cd,ck,chk,caci,cbfg", "0121120;ci,ce,ce,cegh,cj,cdgl,ci,cbcfk"};
        for (String text : texts) {
            Model m = new Model();
            HarpPedals x = new HarpPedals();
            for (char c : text.toCharArray()) {
                m.letter(c);
                x.letter(c);
            }
            m.part();
            x.part();
            due("more ways than the rest tells: " + text, m.wholeWays() > 1000003 ? 1 : 0, 1);
            due("plan(1) of " + text, x.plan(1), m.plan(1));
        }
    }

    private static void oneRun(int run) {
        Random random = new Random(1000 + run);
        Model m = new Model();
        HarpPedals x = new HarpPedals();
        StringBuilder told = new StringBuilder("run " + run + ":");
        int richest = 1 + random.nextInt(4);
        for (int call = 0; call < CALLS && wrong < 20; call++) {
            if (call == 3 || random.nextInt(40) == 0) {
                write(random, x, m, told, partText(random, 8, richest));
            }
            oneCall(random, x, m, told);
        }
        due(told + " digest()", x.digest(), m.digest());
    }

    /** As many calls as an object is used for, each of which is due one answer. */
    private static void longRun(int run) {
        Random random = new Random(1000 + run);
        Model m = new Model();
        HarpPedals x = new HarpPedals();
        StringBuilder told = new StringBuilder("long run " + run + ":");
        int first = asked;
        write(random, x, m, told, partText(random, 8, 2));
        while (asked - first < MOST_CALLS - 2 && wrong < 20) {
            if (asked - first < MOST_CALLS - CALLS_TO_WRITE && random.nextInt(60) == 0) {
                write(random, x, m, told, partText(random, 8, 2));
            }
            oneCall(random, x, m, told);
        }
        while (asked - first < MOST_CALLS && wrong < 20) {
            due(told + " digest()", x.digest(), m.digest());
        }
    }

    private static void write(Random random, HarpPedals x, Model m, StringBuilder told, String text) {
        if (random.nextInt(6) == 0) {
            int place = random.nextInt(text.length());
            text = text.substring(0, place) + "012;,cghqbal".charAt(random.nextInt(12)) + text.substring(place + 1);
        }
        told.append(" blank()");
        due(told.toString(), x.blank(), m.blank());
        for (char c : text.toCharArray()) {
            due(told + " letter " + c, x.letter(c), m.letter(c));
        }
        told.append(" [").append(text).append("] fault() part()");
        due(told + " fault", x.fault(), m.fault());
        due(told + " part", x.part(), m.part());
    }

    static String partText(Random random, int mostChords, int richest) {
        StringBuilder text = new StringBuilder();
        for (int i = 0; i < 7; i++) {
            text.append(random.nextInt(3));
        }
        text.append(';');
        int chords = 1 + random.nextInt(mostChords);
        for (int i = 0; i < chords; i++) {
            text.append(i == 0 ? "" : ",").append(chordText(random, richest));
        }
        return text.toString();
    }

    private static String chordText(Random random, int richest) {
        char kind = "cccchhqqbg".charAt(random.nextInt(10));
        TreeSet<Integer> tones = new TreeSet<>();
        if (kind == 'g') {
            // four tones with three between: the settings of which all strings have one of four tones
            int first = random.nextInt(3);
            tones.addAll(List.of(first, first + 3, first + 6, first + 9));
        } else {
            int many = 1 + random.nextInt(richest);
            while (tones.size() < many) {
                tones.add(random.nextInt(12));
            }
        }
        StringBuilder text = new StringBuilder().append(kind);
        for (int tone : tones) {
            text.append((char) ('a' + tone));
        }
        return text.toString();
    }

    private static int number(Random random, int most) {
        switch (random.nextInt(12)) {
            case 0:
                return -1;
            case 1:
                return most + 1;
            case 2:
                return random.nextInt(8) == 0 ? Integer.MAX_VALUE : most;
            case 3:
                return random.nextInt(8) == 0 ? Integer.MIN_VALUE : 0;
            default:
                return random.nextInt(most + 1);
        }
    }

    private static int toneBits(Random random) {
        int bits = 0;
        for (int i = random.nextInt(6); i > 0; i--) {
            bits |= 1 << random.nextInt(random.nextInt(9) == 0 ? 13 : 12);
        }
        return bits;
    }

    private static void oneCall(Random random, HarpPedals x, Model m, StringBuilder told) {
        int chord = number(random, Math.max(0, m.count(0) - 1));
        int place = number(random, m.count(0));
        switch (random.nextInt(27)) {
            case 0: { int code = number(random, 126); told.append(" letter(" + code + ")"); due(told.toString(), x.letter(code), m.letter(code)); break; }
            case 1: { told.append(" fault()"); due(told.toString(), x.fault(), m.fault()); break; }
            case 2: { told.append(" part()"); due(told.toString(), x.part(), m.part()); break; }
            case 3: { int what = number(random, 5); told.append(" chord(" + chord + "," + what + ")"); due(told.toString(), x.chord(chord, what), m.chord(chord, what)); break; }
            case 4: { int kind = number(random, 4); told.append(" as(" + chord + "," + kind + ")"); due(told.toString(), x.as(chord, kind), m.as(chord, kind)); break; }
            case 5: { int pedal = number(random, 6); int position = number(random, 2); told.append(" tone(" + pedal + "," + position + ")"); due(told.toString(), x.tone(pedal, position), m.tone(pedal, position)); break; }
            case 6: { int pedal = number(random, 6); int position = number(random, 2); told.append(" press(" + pedal + "," + position + ")"); due(told.toString(), x.press(pedal, position), m.press(pedal, position)); break; }
            case 7: case 8: { int kind = number(random, 4); int tones = toneBits(random); told.append(" put(" + place + "," + kind + "," + tones + ")"); due(told.toString(), x.put(place, kind, tones), m.put(place, kind, tones)); break; }
            case 9: { told.append(" take(" + chord + ")"); due(told.toString(), x.take(chord), m.take(chord)); break; }
            case 10: { int other = number(random, Math.max(0, m.count(0) - 1)); told.append(" swap(" + chord + "," + other + ")"); due(told.toString(), x.swap(chord, other), m.swap(chord, other)); break; }
            case 11: { int kind = number(random, 4); told.append(" change(" + chord + "," + kind + ")"); due(told.toString(), x.change(chord, kind), m.change(chord, kind)); break; }
            case 12: { int by = number(random, 11); told.append(" shift(" + by + ")"); due(told.toString(), x.shift(by), m.shift(by)); break; }
            case 13: case 14: { int what = number(random, 2); told.append(" plan(" + what + ")"); due(told.toString(), x.plan(what), m.plan(what)); break; }
            case 15: { told.append(" setting(" + chord + ")"); due(told.toString(), x.setting(chord), m.setting(chord)); break; }
            case 16: { told.append(" reach(" + chord + ")"); due(told.toString(), x.reach(chord), m.reach(chord)); break; }
            case 17: { int by = number(random, 11); told.append(" shifted(" + by + ")"); due(told.toString(), x.shifted(by), m.shifted(by)); break; }
            case 18: { told.append(" leastShift()"); due(told.toString(), x.leastShift(), m.leastShift()); break; }
            case 19: { told.append(" free()"); due(told.toString(), x.free(), m.free()); break; }
            case 20: case 21: { int what = number(random, 3); boolean could = random.nextBoolean(); told.append(" see(" + chord + "," + what + "," + could + ")"); due(told.toString(), x.see(chord, what, could), m.see(chord, what, could)); break; }
            case 22: { if (random.nextInt(3) == 0) { told.append(" forget()"); due(told.toString(), x.forget(), m.forget()); } break; }
            case 23: { int times = number(random, 30); int seed = random.nextInt(9) == 0 ? -1 : random.nextInt() & Integer.MAX_VALUE; int what = number(random, 2); told.append(" drawn(" + times + "," + seed + "," + what + ")"); due(told.toString(), x.drawn(times, seed, what), m.drawn(times, seed, what)); break; }
            case 24: { told.append(" image()"); due(told.toString(), x.image(), m.image()); break; }
            case 25: { told.append(" restore()"); due(told.toString(), x.restore(), m.restore()); break; }
            default: { int what = number(random, 6); told.append(" count(" + what + ") digest()"); due(told.toString(), x.count(what), m.count(what)); due(told.toString(), x.digest(), m.digest()); break; }
        }
    }

    /** The document, as plainly as it can be said. */
    static final class Model {
        static final int NONE = -1, UNKNOWN = -101, OUTSIDE = -102, STATE = -103, FULL = -104;
        static final int[] NATURAL = {2, 0, 11, 4, 5, 7, 9};
        static final String KIND_LETTERS = "cghqb";
        static final Set<String> CHORD_TEXTS = new HashSet<>();
        static final Set<String> CHORD_BEGINNINGS = new HashSet<>();
        static final List<String> SETTINGS = new ArrayList<>();
        static final Map<String, List<String>> NEIGHBOURS = new HashMap<>();

        static {
            for (int bits = 1; bits < 4096; bits++) {
                StringBuilder tones = new StringBuilder();
                for (int tone = 0; tone < 12; tone++) {
                    if ((bits >> tone & 1) == 1) {
                        tones.append((char) ('a' + tone));
                    }
                }
                for (int i = 0; i < 5 && tones.length() <= 4; i++) {
                    CHORD_TEXTS.add(KIND_LETTERS.charAt(i) + tones.toString());
                }
            }
            for (String text : CHORD_TEXTS) {
                for (int i = 0; i <= text.length(); i++) {
                    CHORD_BEGINNINGS.add(text.substring(0, i));
                }
            }
            for (int i = 0; i < 2187; i++) {
                String digits = "0000000" + Integer.toString(i, 3);
                SETTINGS.add(digits.substring(digits.length() - 7));
            }
            for (String setting : SETTINGS) {
                List<String> made = new ArrayList<>();
                for (String left : movedWithin(setting.substring(0, 3))) {
                    for (String right : movedWithin(setting.substring(3))) {
                        made.add(left + right);
                    }
                }
                NEIGHBOURS.put(setting, made);
            }
        }

        static List<String> movedWithin(String foot) {
            List<String> made = new ArrayList<>();
            made.add(foot);
            for (int i = 0; i < foot.length(); i++) {
                for (char c = '0'; c <= '2'; c++) {
                    if (c != foot.charAt(i)) {
                        made.add(foot.substring(0, i) + c + foot.substring(i + 1));
                    }
                }
            }
            return made;
        }

        record Chord(int kind, Set<Integer> tones) {
            boolean held() {
                return kind == 2 || kind == 4;
            }

            Chord raised(int by) {
                Set<Integer> more = new TreeSet<>();
                for (int tone : tones) {
                    more.add((tone + by) % 12);
                }
                return new Chord(kind, more);
            }

            int bits() {
                int bits = 0;
                for (int tone : tones) {
                    bits += 1 << tone;
                }
                return bits;
            }
        }

        record Sight(int chord, int what, boolean could) {
        }

        record Track(int moves, long ways, List<String> settings) {
        }

        String page = "";
        String begin = null;
        List<Chord> chords = new ArrayList<>();
        List<Sight> seen = new ArrayList<>();
        String keptBegin = null;
        List<Chord> keptChords;
        List<Sight> keptSeen;
        int reads = 0;
        int shifts = 0;

        int letter(int code) {
            if (code < 1 || code > 126) return OUTSIDE;
            if (page.length() + 1 > 56) return FULL;
            page += (char) code;
            return page.length();
        }

        int blank() {
            int had = page.length();
            page = "";
            return had;
        }

        static boolean beginsPart(String text) {
            for (int i = 0; i < text.length() && i < 7; i++) {
                if ("012".indexOf(text.charAt(i)) < 0) return false;
            }
            if (text.length() <= 7) return true;
            if (text.charAt(7) != ';') return false;
            String[] pieces = text.substring(8).split(",", -1);
            for (int i = 0; i < pieces.length; i++) {
                if (!(i < pieces.length - 1 ? CHORD_TEXTS : CHORD_BEGINNINGS).contains(pieces[i])) return false;
            }
            return pieces.length <= 8;
        }

        int fault() {
            for (int i = 0; i < page.length(); i++) {
                if (!beginsPart(page.substring(0, i + 1))) return i;
            }
            return page.length();
        }

        int part() {
            if (!beginsPart(page) || page.length() < 9) return STATE;
            String[] pieces = page.substring(8).split(",", -1);
            if (!CHORD_TEXTS.contains(pieces[pieces.length - 1])) return STATE;
            begin = page.substring(0, 7);
            chords.clear();
            for (String piece : pieces) {
                Set<Integer> tones = new TreeSet<>();
                for (char c : piece.substring(1).toCharArray()) {
                    tones.add(c - 'a');
                }
                chords.add(new Chord(KIND_LETTERS.indexOf(piece.charAt(0)), tones));
            }
            page = "";
            seen.clear();
            keptBegin = null;
            reads++;
            return chords.size();
        }

        boolean unknown(int chord) {
            return chord < 0 || chord >= chords.size();
        }

        static int toneOf(String setting, int pedal) {
            return Math.floorMod(NATURAL[pedal] + setting.charAt(pedal) - '1', 12);
        }

        static Set<Integer> tonesOf(String setting) {
            Set<Integer> tones = new TreeSet<>();
            for (int pedal = 0; pedal < 7; pedal++) {
                tones.add(toneOf(setting, pedal));
            }
            return tones;
        }

        static boolean fits(String setting, Chord chord) {
            Set<Integer> tones = tonesOf(setting);
            if (!tones.containsAll(chord.tones())) return false;
            return chord.kind() != 1 || chord.tones().containsAll(tones);
        }

        int chord(int chord, int what) {
            if (unknown(chord)) return UNKNOWN;
            Chord c = chords.get(chord);
            int many = 0;
            int least = NONE;
            switch (what) {
                case 0:
                    return c.kind();
                case 1:
                    return c.bits();
                case 2:
                case 3:
                    for (String setting : SETTINGS) {
                        if (fits(setting, c)) {
                            many++;
                            least = least == NONE ? Integer.parseInt(setting) : least;
                        }
                    }
                    return what == 2 ? many : least;
                case 4:
                    return sorts(chord).stream().mapToInt(kind -> 1 << kind).sum();
                case 5:
                    return ask(chord);
                default:
                    return OUTSIDE;
            }
        }

        static boolean could(int kind, int what) {
            switch (what) {
                case 0:
                    return kind != 1;
                case 1:
                    return kind != 2 && kind != 4;
                case 2:
                    return kind != 3 && kind != 4;
                default:
                    return kind != 4;
            }
        }

        List<Integer> sorts(int chord) {
            List<Integer> sorts = new ArrayList<>(List.of(0, 1, 2, 3, 4));
            for (Sight s : seen) {
                if (s.chord() == chord) {
                    sorts.removeIf(kind -> could(kind, s.what()) != s.could());
                }
            }
            return sorts;
        }

        int ask(int chord) {
            List<Integer> sorts = sorts(chord);
            if (sorts.isEmpty()) return NONE;
            int best = NONE;
            long fewest = 99;
            for (int what = 0; what < 4; what++) {
                int w = what;
                long yes = sorts.stream().filter(kind -> could(kind, w)).count();
                long worst = Math.max(yes, sorts.size() - yes);
                if (worst < fewest) {
                    fewest = worst;
                    best = what;
                }
            }
            return best;
        }

        int as(int chord, int kind) {
            if (unknown(chord)) return UNKNOWN;
            if (kind < 0 || kind > 4) return OUTSIDE;
            int own = chords.get(chord).kind();
            return kind == 0 || kind == own || kind == 2 && own == 4 ? chord : NONE;
        }

        int tone(int pedal, int position) {
            if (pedal < 0 || pedal > 6) return UNKNOWN;
            if (position < 0 || position > 2) return OUTSIDE;
            return Math.floorMod(NATURAL[pedal] + position - 1, 12);
        }

        int press(int pedal, int position) {
            if (pedal < 0 || pedal > 6) return UNKNOWN;
            if (position < 0 || position > 2) return OUTSIDE;
            if (begin == null) return STATE;
            begin = begin.substring(0, pedal) + position + begin.substring(pedal + 1);
            return Integer.parseInt(begin);
        }

        int put(int place, int kind, int tones) {
            if (place < 0 || place > chords.size()) return UNKNOWN;
            if (kind < 0 || kind > 4) return OUTSIDE;
            if (tones < 1 || tones > 4095 || Integer.bitCount(tones) > 4) return OUTSIDE;
            if (begin == null) return STATE;
            if (chords.size() == 8) return FULL;
            Set<Integer> set = new TreeSet<>();
            for (int tone = 0; tone < 12; tone++) {
                if ((tones >> tone & 1) == 1) set.add(tone);
            }
            chords.add(place, new Chord(kind, set));
            return chords.size();
        }

        int take(int chord) {
            if (unknown(chord)) return UNKNOWN;
            if (chords.size() == 1) return STATE;
            chords.remove(chord);
            return chords.size();
        }

        int swap(int one, int other) {
            if (unknown(one) || unknown(other) || one == other) return UNKNOWN;
            java.util.Collections.swap(chords, one, other);
            return plan(0);
        }

        int change(int chord, int kind) {
            if (unknown(chord)) return UNKNOWN;
            if (kind < 0 || kind > 4) return OUTSIDE;
            Chord c = chords.get(chord);
            chords.set(chord, new Chord(kind, c.tones()));
            return c.kind();
        }

        int shift(int by) {
            if (by < 0 || by > 11) return OUTSIDE;
            if (begin == null) return STATE;
            chords.replaceAll(c -> c.raised(by));
            return plan(0);
        }

        /** How many pedals are moved; NONE, if that can't be between these chords (the earlier may be null). */
        static int moves(String from, String to, Chord earlier, Chord later) {
            int moved = 0;
            for (int pedal = 0; pedal < 7; pedal++) {
                if (from.charAt(pedal) != to.charAt(pedal)) {
                    moved++;
                    if (earlier != null && earlier.held() && earlier.tones().contains(toneOf(from, pedal))) return NONE;
                }
            }
            if (later.kind() == 3 && moved > 1 || later.kind() == 4 && moved > 0) return NONE;
            return moved;
        }

        /** For each chord the settings that plans up to it come to, each with its best track. */
        static List<Map<String, Track>> tracks(Map<String, Track> start, List<Chord> chords) {
            List<Map<String, Track>> all = new ArrayList<>();
            Map<String, Track> now = start;
            for (int i = 0; i < chords.size(); i++) {
                Chord earlier = i == 0 ? null : chords.get(i - 1);
                Chord later = chords.get(i);
                Set<String> fitting = new HashSet<>();
                for (String setting : SETTINGS) {
                    if (fits(setting, later)) fitting.add(setting);
                }
                Map<String, Track> next = new TreeMap<>();
                for (Map.Entry<String, Track> e : now.entrySet()) {
                    for (String to : NEIGHBOURS.get(e.getKey())) {
                        int moved = fitting.contains(to) ? moves(e.getKey(), to, earlier, later) : NONE;
                        if (moved != NONE) {
                            next.put(to, better(next.get(to), e.getValue(), moved, to));
                        }
                    }
                }
                all.add(next);
                now = next;
            }
            return all;
        }

        static Track better(Track old, Track before, int moved, String to) {
            int moves = before.moves() + moved;
            if (old != null && old.moves() < moves) return old;
            List<String> settings = new ArrayList<>(before.settings());
            settings.add(to);
            if (old == null || moves < old.moves()) return new Track(moves, before.ways(), settings);
            return new Track(moves, old.ways() + before.ways(), less(old.settings(), settings));
        }

        static List<String> less(List<String> one, List<String> other) {
            return String.join(",", one).compareTo(String.join(",", other)) <= 0 ? one : other;
        }

        static Track bestOf(Map<String, Track> last) {
            Track best = null;
            for (Track t : last.values()) {
                if (best == null || t.moves() < best.moves()) {
                    best = t;
                } else if (t.moves() == best.moves()) {
                    best = new Track(t.moves(), best.ways() + t.ways(), less(best.settings(), t.settings()));
                }
            }
            return best;
        }

        List<Map<String, Track>> fromBegin(int by) {
            List<Chord> raised = new ArrayList<>();
            for (Chord c : chords) {
                raised.add(c.raised(by));
            }
            return tracks(Map.of(begin, new Track(0, 1, List.of())), raised);
        }

        Track best(int by) {
            return bestOf(fromBegin(by).get(chords.size() - 1));
        }

        long wholeWays() {
            Track t = best(0);
            return t == null ? 0 : t.ways();
        }

        int plan(int what) {
            if (what < 0 || what > 2) return OUTSIDE;
            if (begin == null) return STATE;
            Track best = best(0);
            if (what == 0) return best == null ? NONE : best.moves();
            if (what == 1) return best == null ? 0 : (int) (best.ways() % 1000003);
            List<Map<String, Track>> all = fromBegin(0);
            for (int i = 0; i < all.size(); i++) {
                if (all.get(i).isEmpty()) return i;
            }
            return NONE;
        }

        int setting(int chord) {
            if (unknown(chord)) return UNKNOWN;
            Track best = best(0);
            return best == null ? NONE : Integer.parseInt(best.settings().get(chord));
        }

        int reach(int chord) {
            if (unknown(chord)) return UNKNOWN;
            return fromBegin(0).get(chord).size();
        }

        int shifted(int by) {
            if (by < 0 || by > 11) return OUTSIDE;
            if (begin == null) return STATE;
            Track best = best(by);
            return best == null ? NONE : best.moves();
        }

        int leastShift() {
            if (begin == null || shifts == 5) return STATE;
            shifts++;
            int least = NONE;
            int fewest = 999;
            for (int by = 0; by < 12; by++) {
                int moves = shifted(by);
                if (moves != NONE && moves < fewest) {
                    fewest = moves;
                    least = by;
                }
            }
            return least;
        }

        int free() {
            if (begin == null) return STATE;
            // each begin is a setting of the track, so that of like ones that with the least begin is best
            Map<String, Track> start = new TreeMap<>();
            for (String setting : SETTINGS) {
                start.put(setting, new Track(0, 1, List.of(setting)));
            }
            Track best = bestOf(tracks(start, chords).get(chords.size() - 1));
            return best == null ? NONE : Integer.parseInt(best.settings().get(0));
        }

        int see(int chord, int what, boolean could) {
            if (unknown(chord)) return UNKNOWN;
            if (what < 0 || what > 3) return OUTSIDE;
            if (seen.size() == 6) return FULL;
            seen.add(new Sight(chord, what, could));
            return seen.size();
        }

        int forget() {
            int was = seen.size();
            seen.clear();
            return was;
        }

        long seed;

        int draw(int of) {
            seed = (1103515245L * seed + 12345) % (1L << 31);
            return (int) (seed / 65536 % of);
        }

        int drawn(int times, int first, int what) {
            if (times < 1 || times > 30 || first < 0 || what < 0 || what > 2) return OUTSIDE;
            if (begin == null) return STATE;
            seed = first;
            String now = begin;
            int played = 0;
            int moved = 0;
            for (int i = 0; i < times; i++) {
                int tone = draw(12);
                int other = (tone + draw(11) + 1) % 12;
                Chord chord = new Chord(0, Set.of(tone, other));
                String next = null;
                for (String to : NEIGHBOURS.get(now)) {
                    if (fits(to, chord)) {
                        int a = moves(now, to, null, chord);
                        int b = next == null ? 99 : moves(now, next, null, chord);
                        if (a < b || a == b && to.compareTo(next) < 0) next = to;
                    }
                }
                if (next != null) {
                    played++;
                    moved += moves(now, next, null, chord);
                    now = next;
                }
            }
            return what == 0 ? played : what == 1 ? moved : (int) seed;
        }

        int image() {
            if (begin == null) return STATE;
            keptBegin = begin;
            keptChords = new ArrayList<>(chords);
            keptSeen = new ArrayList<>(seen);
            return chords.size();
        }

        int restore() {
            if (keptBegin == null) return STATE;
            begin = keptBegin;
            chords = new ArrayList<>(keptChords);
            seen = new ArrayList<>(keptSeen);
            return chords.size();
        }

        int count(int what) {
            Set<Integer> tones = new TreeSet<>();
            for (Chord c : chords) {
                tones.addAll(c.tones());
            }
            int[] all = {chords.size(), begin == null ? NONE : Integer.parseInt(begin), tones.size(), seen.size(),
                page.length(), reads, shifts};
            return what < 0 || what > 6 ? OUTSIDE : all[what];
        }

        long digest() {
            List<Long> numbers = new ArrayList<>();
            if (begin != null) {
                List<Map<String, Track>> all = fromBegin(0);
                Track best = bestOf(all.get(all.size() - 1));
                for (int i = 0; i < chords.size(); i++) {
                    for (int what = 0; what < 6; what++) {
                        numbers.add((long) chord(i, what));
                    }
                    numbers.add(best == null ? NONE : Long.parseLong(best.settings().get(i)));
                    numbers.add((long) all.get(i).size());
                }
                numbers.addAll(Arrays.asList((long) plan(0), (long) plan(1), (long) plan(2)));
            }
            for (char c : page.toCharArray()) {
                numbers.add((long) c);
            }
            for (int what = 0; what < 7; what++) {
                numbers.add((long) count(what));
            }
            long h = 1423;
            for (long number : numbers) {
                h = 31 * h + number;
            }
            return h;
        }
    }
}
