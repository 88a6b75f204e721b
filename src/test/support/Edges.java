import java.lang.reflect.InvocationTargetException;
import java.lang.reflect.Method;
import java.util.ArrayList;
import java.util.List;
import java.util.TreeMap;
import java.util.function.Supplier;
import java.util.function.ToLongFunction;

/** What the tests of edges share. Each of their tests is a method named by its promise: promise02_.. */
final class Edges {
    static final int NONE = -1, UNKNOWN = -101, OUTSIDE = -102, STATE = -103, FULL = -104;
    static final int LEAST = Integer.MIN_VALUE, MOST = Integer.MAX_VALUE;
    static final String NATURAL = "1111111;";

    private static String test = "";
    private static int asked = 0;
    private static int wrong = 0;

    private Edges() {
    }

    /** Runs all tests of a class; each promise from the first to the last has to have one. */
    static void run(Class<?> tests, int firstPromise, int lastPromise) throws IllegalAccessException {
        TreeMap<String, Method> sorted = new TreeMap<>();
        for (Method method : tests.getDeclaredMethods()) {
            if (method.getName().startsWith("promise")) {
                sorted.put(method.getName(), method);
            }
        }
        for (Method method : sorted.values()) {
            runOne(method);
        }
        for (int promise = firstPromise; promise <= lastPromise; promise++) {
            String prefix = String.format("promise%02d_", promise);
            String next = sorted.ceilingKey(prefix);
            test = prefix;
            due("it has a test", next != null && next.startsWith(prefix) ? 1 : 0, 1);
        }
        System.out.println(sorted.size() + " tests, " + asked + " answers, " + wrong + " wrong");
        if (wrong != 0) {
            System.exit(1);
        }
    }

    private static void runOne(Method method) throws IllegalAccessException {
        test = method.getName();
        method.setAccessible(true);
        try {
            method.invoke(null);
        } catch (InvocationTargetException e) {
            due("threw " + e.getCause(), 1, 0);
        }
    }

    static void due(String what, long got, long want) {
        asked++;
        if (got != want) {
            wrong++;
            System.out.println(test + ": " + what + " answered " + got + ", due is " + want);
        }
    }

    /** The answer is due; and then all is told and done as it is without the call. */
    static void dueWithoutChange(Supplier<HarpPedals> maker, String what, ToLongFunction<HarpPedals> call, long want) {
        HarpPedals x = maker.get();
        due(what, call.applyAsLong(x), want);
        due(what + ": as without it", allTold(x).equals(allTold(maker.get())) ? 1 : 0, 1);
    }

    static HarpPedals written(String text) {
        HarpPedals x = new HarpPedals();
        write(x, text);
        return x;
    }

    static void write(HarpPedals x, String text) {
        for (int i = 0; i < text.length(); i++) {
            x.letter(text.charAt(i));
        }
    }

    static HarpPedals read(String text) {
        HarpPedals x = written(text);
        if (x.part() < 1) {
            due("part() of " + text, STATE, 1);
        }
        return x;
    }

    /** The same part made twice over, for dueWithoutChange. */
    static Supplier<HarpPedals> part(String text) {
        return () -> read(text);
    }

    /** A part of that many chords; their tones are 0, 1, 2 and so on. */
    static String chords(int many) {
        StringBuilder text = new StringBuilder(NATURAL);
        for (int i = 0; i < many; i++) {
            text.append(i == 0 ? "c" : ",c").append((char) ('a' + i));
        }
        return text.toString();
    }

    /** Three chords, some things seen, an image of other things, letters on the page. */
    static HarpPedals middling() {
        HarpPedals x = read("1111111;cc,ha,qb");
        x.see(0, 1, false);
        x.image();
        x.press(0, 0);
        x.see(2, 0, true);
        x.leastShift();
        write(x, "0000000;cl");
        return x;
    }

    /** All places taken: eight chords, six things seen, 56 letters, LEAST SHIFT asked for five times. */
    static HarpPedals full() {
        HarpPedals x = read("0120120;ca,gbd,hbdfh,ql,bk,cd,he,cf");
        for (int i = 0; i < 6; i++) {
            x.see(i + 1, i % 4, i % 2 == 0);
        }
        x.image();
        x.take(3);
        x.put(5, 3, 96);
        for (int i = 0; i < 5; i++) {
            x.leastShift();
        }
        write(x, "1".repeat(56));
        return x;
    }

    /** All answers that do not change it, and then what comes of those that do. */
    private static List<Long> allTold(HarpPedals x) {
        List<Long> told = new ArrayList<>();
        tellAll(x, told);
        told.add((long) x.leastShift());
        told.add((long) x.count(6));
        told.add((long) x.restore());
        told.add(x.digest());
        told.add((long) x.part());
        told.add(x.digest());
        told.add((long) x.restore());
        told.add((long) x.forget());
        told.add((long) x.blank());
        return told;
    }

    private static void tellAll(HarpPedals x, List<Long> told) {
        told.add(x.digest());
        for (int what = 0; what < 7; what++) {
            told.add((long) x.count(what));
        }
        for (int chord = 0; chord < 8; chord++) {
            for (int what = 0; what < 6; what++) {
                told.add((long) x.chord(chord, what));
                told.add((long) x.as(chord, what));
            }
            told.add((long) x.setting(chord));
            told.add((long) x.reach(chord));
        }
        for (int what = 0; what < 3; what++) {
            told.add((long) x.plan(what));
            told.add((long) x.drawn(4, 1, what));
        }
        for (int by = 0; by < 12; by++) {
            told.add((long) x.shifted(by));
        }
        told.add((long) x.free());
        told.add((long) x.fault());
    }
}
