import java.lang.management.ManagementFactory;
import java.lang.reflect.Field;
import java.lang.reflect.Method;
import java.lang.reflect.Modifier;
import java.nio.file.Files;
import java.nio.file.Path;
import java.util.Arrays;
import java.util.List;
import java.util.Set;
import java.util.TreeSet;
import java.util.function.Supplier;
import java.util.regex.Matcher;
import java.util.regex.Pattern;

/** The document's face, those rules of LANGUAGE.md that can be looked at, and the room that calls take. */
public final class LanguageTest {
    private static int wrong = 0;

    private static void rule(String what, boolean holds) {
        if (!holds) {
            wrong++;
            System.out.println("not so: " + what);
        }
    }

    public static void main(String[] args) throws Exception {
        String source = Files.readString(Path.of("src/main/java/HarpPedals.java"));
        String code = source.replaceAll("(?s)/\\*.*?\\*/", "").replaceAll("//[^\n]*", "");
        theFace();
        theFaceOfTheDocument();
        theWords(code);
        theMethods(code);
        theRoom();
        noCallThrows();
        System.out.println(wrong == 0 ? "all rules hold" : wrong + " rules do not hold");
        if (wrong != 0) {
            System.exit(1);
        }
    }

    private static void theFace() {
        Set<String> face = new TreeSet<>();
        Set<String> own = new TreeSet<>();
        for (Method m : HarpPedals.class.getDeclaredMethods()) {
            boolean isPublic = Modifier.isPublic(m.getModifiers());
            rule("1: " + m.getName() + " is public or private", isPublic || Modifier.isPrivate(m.getModifiers()));
            (isPublic ? face : own).add(m.getName());
        }
        Set<String> constants = new TreeSet<>();
        for (Field f : HarpPedals.class.getDeclaredFields()) {
            boolean isPublic = Modifier.isPublic(f.getModifiers());
            rule("1: " + f.getName() + " is public or private", isPublic || Modifier.isPrivate(f.getModifiers()));
            if (isPublic) {
                constants.add(f.getName());
            }
        }
        rule("1: the constants", constants.equals(Set.of("NONE", "UNKNOWN", "OUTSIDE", "STATE", "FULL")));
        rule("11: at most twelve classes", HarpPedals.class.getDeclaredClasses().length <= 11);
        for (Class<?> c : HarpPedals.class.getDeclaredClasses()) {
            rule("2: " + c.getName() + " is static", Modifier.isStatic(c.getModifiers()));
            for (Method m : c.getDeclaredMethods()) {
                own.add(m.getName());
            }
            fieldsOf(c);
        }
        fieldsOf(HarpPedals.class);
        own.retainAll(face);
        rule("1: no other method bears a name of the face, but " + own + " do", own.isEmpty());
    }

    /** Each call with what it takes and answers, and each constant, as they stand in the document's Java. */
    private static void theFaceOfTheDocument() throws Exception {
        Set<String> due = new TreeSet<>();
        Matcher calls = Pattern.compile("(?m)^    (public \\w+ \\w+)\\((.*)\\);$").matcher(Face.TEXT);
        while (calls.find()) {
            due.add(calls.group(1) + "(" + calls.group(2).replaceAll("(\\w+) \\w+", "$1") + ")");
        }
        Set<String> there = new TreeSet<>();
        for (Method m : HarpPedals.class.getDeclaredMethods()) {
            if (!Modifier.isPrivate(m.getModifiers())) {
                String takes = Arrays.toString(m.getParameterTypes()).replaceAll("[\\[\\]]", "");
                there.add(Modifier.toString(m.getModifiers()) + " " + m.getReturnType() + " " + m.getName() + "(" + takes + ")");
            }
        }
        rule("1: the calls are " + due + ", not " + there, due.equals(there));
        Matcher constants = Pattern.compile("([A-Z]+) = (-\\d+)[,;]").matcher(Face.TEXT);
        int many = 0;
        while (constants.find()) {
            Field f = HarpPedals.class.getField(constants.group(1));
            boolean isSo = Modifier.toString(f.getModifiers()).equals("public static final") && f.getType() == int.class;
            rule("1: " + constants.group(), isSo && f.getInt(null) == Integer.parseInt(constants.group(2)));
            many++;
        }
        rule("1: the face has five constants, not " + many, many == 5);
        rule("1: public and final", Modifier.toString(HarpPedals.class.getModifiers()).equals("public final"));
        rule("1: one public constructor", HarpPedals.class.getDeclaredConstructors().length == 1
            && HarpPedals.class.getConstructors().length == 1);
    }

    private static void fieldsOf(Class<?> c) {
        int fields = 0;
        for (Field f : c.getDeclaredFields()) {
            boolean isStatic = Modifier.isStatic(f.getModifiers());
            rule("5: " + c.getName() + "." + f.getName() + " is final", !isStatic || Modifier.isFinal(f.getModifiers()));
            fields += isStatic ? 0 : 1;
        }
        rule("11: at most twenty fields in " + c.getName(), fields <= 20);
    }

    private static void theWords(String code) {
        String[] banned = {"throw", "throws", "try", "catch", "finally", "synchronized", "assert", "static \\{", "protected",
            "package", "native", "Math\\.\\w+Exact", "System\\.(?!arraycopy)\\w+", "Random", "Thread", "->", "::", "hashCode",
            "toString", "equals", "instanceof", "double", "float"};
        for (String word : banned) {
            String bounded = Character.isLetter(word.charAt(0)) && Character.isLetter(word.charAt(word.length() - 1))
                ? "\\b" + word + "\\b" : word;
            rule("no " + word, !Pattern.compile(bounded).matcher(code).find());
        }
        Matcher imports = Pattern.compile("(?m)^import (.*);").matcher(code);
        while (imports.find()) {
            rule("4: import " + imports.group(1), imports.group(1).equals("java.util.Arrays"));
        }
        rule("3: no array of three dimensions", !code.contains("[][][]"));
    }

    private static void theMethods(String code) {
        int open = 0;
        int depth = 0;
        String name = "";
        String[] lines = code.split("\n");
        for (int i = 0; i < lines.length; i++) {
            String line = lines[i];
            boolean begins = line.matches("    (    )?[a-zA-Z].*\\) \\{");
            if (begins) {
                open = i;
                depth = line.length() - line.stripLeading().length();
                name = line.strip();
                rule("11: at most seven parameters: " + name, name.chars().filter(c -> c == ',').count() < 7);
            }
            if (line.equals(" ".repeat(depth) + "}") && depth > 0) {
                rule("11: at most sixty lines: " + name, i - open < 60);
            }
        }
    }

    /** No call makes an object: all rows are made with the object itself. */
    private static void theRoom() {
        calls(new HarpPedals());
        calls(new HarpPedals());
        com.sun.management.ThreadMXBean threads = (com.sun.management.ThreadMXBean) ManagementFactory.getThreadMXBean();
        long here = Thread.currentThread().getId();
        long first = threads.getThreadAllocatedBytes(here);
        HarpPedals x = new HarpPedals();
        long made = threads.getThreadAllocatedBytes(here);
        calls(x);
        long used = threads.getThreadAllocatedBytes(here);
        rule("an object takes at most 40,000 ints, but it took " + (made - first) + " bytes", made - first < 160_000);
        rule("a call takes nothing, but calls took " + (used - made) + " bytes", used - made < 5_000);
    }

    /** 7: every call, with numbers at and beyond each limit, in objects with nothing, something, all places taken. */
    private static void noCallThrows() {
        List<Supplier<HarpPedals>> states = List.of(HarpPedals::new, () -> Edges.written("1111111;c"),
            Edges.part("1111111;ca"), Edges::middling, Edges::full);
        for (Supplier<HarpPedals> state : states) {
            for (Method m : HarpPedals.class.getDeclaredMethods()) {
                if (Modifier.isPublic(m.getModifiers())) {
                    callWithAll(state, m);
                }
            }
        }
    }

    private static void callWithAll(Supplier<HarpPedals> state, Method m) {
        int[] numbers = {Integer.MIN_VALUE, -1, 0, 1, 3, 7, 8, 12, 31, 57, 127, 4096, Integer.MAX_VALUE};
        int many = m.getParameterCount();
        int turns = (int) Math.pow(numbers.length, many);
        HarpPedals x = state.get();
        for (int turn = 0; turn < turns; turn++) {
            if (turn % 200 == 199) {
                x = state.get();
            }
            Object[] arguments = new Object[many];
            int rest = turn;
            for (int i = 0; i < many; i++) {
                int number = numbers[rest % numbers.length];
                arguments[i] = m.getParameterTypes()[i] == boolean.class ? (Object) (number > 3) : (Object) number;
                rest /= numbers.length;
            }
            try {
                m.invoke(x, arguments);
            } catch (ReflectiveOperationException e) {
                rule("7: " + m.getName() + Arrays.toString(arguments) + " threw " + e.getCause(), false);
            }
        }
    }

    private static void calls(HarpPedals x) {
        int[] codes = {49, 49, 49, 49, 49, 49, 49, 59, 99, 97, 44, 104, 98, 101, 44, 113, 99};
        for (int code : codes) {
            x.letter(code);
        }
        x.fault();
        x.part();
        for (int i = 0; i < 5; i++) {
            x.put(i, i, 1 << i);
            x.change(i, 0);
            x.press(i, i % 3);
            x.see(i, i % 4, true);
            x.swap(i, i + 1);
            x.shift(i);
            x.shifted(i);
            x.leastShift();
            x.free();
            x.drawn(30, i, 0);
            x.image();
            x.restore();
            x.take(1);
            x.digest();
        }
        x.forget();
        x.blank();
    }
}
