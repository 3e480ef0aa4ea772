import java.io.IOException;
import java.lang.reflect.Field;
import java.lang.reflect.Member;
import java.lang.reflect.Method;
import java.lang.reflect.Modifier;
import java.nio.charset.StandardCharsets;
import java.nio.file.Files;
import java.nio.file.Path;
import java.util.ArrayList;
import java.util.Arrays;
import java.util.Comparator;
import java.util.List;
import java.util.Random;
import java.util.TreeSet;
import java.util.regex.Matcher;
import java.util.regex.Pattern;

/** What of LANGUAGE.md can be seen from the source and from the class: its rules by number. */
public final class LanguageTests {
    private static final String FACE = "count dawn door brick hung feed text force asks person put told open after safe "
            + "way together friend worst mason watch doomed share walk goes judge kinds states lucks whose laws film "
            + "drawn odds image back sheet cell copy peopleBy taken";
    private static final String[] RULED_OUT = {
        "throw", "throws", "try", "catch", "finally", "synchronized", "assert", "import", "package", "var", "yield",
        "Object", "Override", "Exception", "System\\.(?!arraycopy)", "Arrays", "Math\\.\\w*Exact", "->", "::", "@",
        "native", "volatile", "transient", "strictfp", "hashCode", "toString", "Thread", "Random", "float", "double"};

    private LanguageTests() {
    }

    private static List<Class<?>> classes() {
        List<Class<?>> all = new ArrayList<>();
        all.add(DoorOfLuck.class);
        for (Class<?> inside : DoorOfLuck.class.getDeclaredClasses()) all.add(inside);
        return all;
    }

    private static void face() {
        TreeSet<String> due = new TreeSet<>(List.of(FACE.split(" ")));
        TreeSet<String> is = new TreeSet<>();
        for (Method m : DoorOfLuck.class.getDeclaredMethods()) {
            if (Modifier.isPublic(m.getModifiers())) is.add(m.getName());
            else Due.is(m + " is private", Modifier.isPrivate(m.getModifiers()) ? 1 : 0, 1);
        }
        if (!is.equals(due)) Due.tell("the face is " + is);
        for (Class<?> c : classes()) {
            for (Method m : c.getDeclaredMethods()) {
                if (c != DoorOfLuck.class && due.contains(m.getName())) Due.tell(m + " bears a public name");
            }
        }
        Due.is("public and final", DoorOfLuck.class.getModifiers(), Modifier.PUBLIC | Modifier.FINAL);
        TreeSet<String> constants = new TreeSet<>();
        for (Field f : DoorOfLuck.class.getDeclaredFields()) {
            if (!Modifier.isPrivate(f.getModifiers())) constants.add(f.getName());
        }
        if (!constants.equals(new TreeSet<>(List.of("NONE", "BAD", "STATE", "FULL", "NO")))) Due.tell("constants " + constants);
    }

    private static void inside() {
        Due.is("classes, at most 12", classes().size() <= 12 ? 1 : 0, 1);
        for (Class<?> c : classes()) {
            int fields = 0;
            for (Field f : c.getDeclaredFields()) {
                if (!Modifier.isStatic(f.getModifiers())) fields++;
                else if (!Modifier.isFinal(f.getModifiers())) Due.tell(f + " is static and not final");
            }
            if (fields > 20) Due.tell(c + " has " + fields + " fields");
            if (c != DoorOfLuck.class && !Modifier.isStatic(c.getModifiers())) Due.tell(c + " isn't static");
            if (c != DoorOfLuck.class && (c.getModifiers() & (Modifier.PUBLIC | Modifier.PROTECTED)) != 0) Due.tell(c + " is seen");
            for (Method m : c.getDeclaredMethods()) {
                if (m.getParameterCount() > 7) Due.tell(m + " takes too many");
                if (c != DoorOfLuck.class && isSeen(m)) Due.tell(m + " is seen");
            }
        }
    }

    private static boolean isSeen(Member m) {
        return (m.getModifiers() & (Modifier.PUBLIC | Modifier.PROTECTED)) != 0;
    }

    private static void words(String source) {
        String bare = source.replaceAll("(?s)/\\*.*?\\*/", "").replaceAll("//[^\n]*", "").replaceAll("\"[^\"\n]*\"", "\"\"");
        for (String word : RULED_OUT) {
            String edge = Character.isLetter(word.charAt(0)) ? "\\b" : "";
            Matcher m = Pattern.compile(edge + word + (word.endsWith(")") || edge.isEmpty() ? "" : "\\b")).matcher(bare);
            if (m.find()) Due.tell("'" + m.group() + "' is ruled out");
        }
        for (int i = 0; i < source.length(); i++) {
            char c = source.charAt(i);
            if (c != '\n' && (c < 32 || c > 126)) Due.tell("the sign " + (int) c + " at " + i);
        }
    }

    private static void methodsAreShort(String source) {
        String[] lines = source.split("\n");
        int start = -1;
        for (int i = 0; i < lines.length; i++) {
            if (lines[i].matches("    ( {4})?[A-Za-z].*\\) \\{") && !lines[i].contains(" class ")) start = i;
            if (lines[i].matches("    ( {4})?\\}") && start >= 0) {
                if (i - start > 60) Due.tell("a method of " + (i - start) + " lines at " + (start + 1));
                start = -1;
            }
        }
    }

    private static final int[] WILD = {Integer.MIN_VALUE, Integer.MIN_VALUE + 1, -65536, -32, -2, -1, 0, 1, 2, 3, 5, 6, 7, 8, 11,
        12, 13, 31, 32, 33, 39, 40, 41, 63, 64, 99, 100, 160, 255, 256, 799, 800, 999, 1000, 65536, 99999, 100000,
        Integer.MAX_VALUE - 1, Integer.MAX_VALUE};

    /** Any call of the face, by any arguments: it throws, if it does. */
    private static void callWildly(DoorOfLuck x, Method m, Random random, int most) {
        Object[] args = new Object[m.getParameterCount()];
        for (int i = 0; i < args.length; i++) {
            args[i] = random.nextInt(most) == 0 ? WILD[random.nextInt(WILD.length)] : random.nextInt(13);
        }
        try {
            m.invoke(x, args);
        } catch (ReflectiveOperationException thrown) {
            Due.tell(m.getName() + Arrays.toString(args) + ": " + thrown.getCause());
        }
    }

    private static void neverThrows() {
        List<Method> face = new ArrayList<>();
        for (Method m : DoorOfLuck.class.getDeclaredMethods()) if (Modifier.isPublic(m.getModifiers())) face.add(m);
        face.sort(Comparator.comparing(Method::getName));
        for (int seed = 0; seed < 60; seed++) {
            Random random = new Random(seed);
            DoorOfLuck x = seed % 2 == 0 ? new DoorOfLuck() : Edges.lived();
            // More than 512 calls: what these answer is free, but they don't throw either.
            for (int n = 0; n < 1500; n++) callWildly(x, face.get(random.nextInt(face.size())), random, 1 + seed % 7);
        }
    }

    /** 512 of the dearest calls make nothing that stays in the room. */
    private static void room() {
        com.sun.management.ThreadMXBean bean =
                (com.sun.management.ThreadMXBean) java.lang.management.ManagementFactory.getThreadMXBean();
        long id = Thread.currentThread().getId();
        long before = 0;
        for (int round = 0; round < 2; round++) {
            before = bean.getThreadAllocatedBytes(id);
            dearest();
        }
        long bytes = bean.getThreadAllocatedBytes(id) - before;
        System.out.println("  " + bytes + " bytes for an object and its calls");
        if (bytes > 100000) Due.tell("too many");
    }

    private static void dearest() {
        DoorOfLuck x = new DoorOfLuck();
        for (int d = 0; d < 12; d++) x.door(d % 8, (d + 1) % 8);
        for (int p = 0; p < 6; p++) x.person(p * 10 + 3, p * 100 + 50);
        x.sheet(0, 0, 40);
        x.film(0, 1, 0);
        for (int i = 0; i < 25; i++) {
            x.told(i % 6, 7);
            x.way(i % 6, 7, 1);
            x.friend(i % 6, 0);
            x.mason(0);
            x.watch(i % 6, 0);
            x.kinds(0, 1, i % 6, 1);
            x.states(0, 1, i % 6, 2);
            x.lucks(0, 1, i % 6, 0);
            x.laws(0, 1, i % 6);
            x.odds(i, 40, i % 6, 9, 0);
            for (int k = 0; k < 5; k++) x.feed(1, 'a', 0, 0, 0, 0);
            x.text();
            x.image();
            x.back();
            x.sheet(2, 2, 40);
        }
    }

    public static void main(String[] args) throws IOException {
        String source = Files.readString(Path.of(args[0]), StandardCharsets.UTF_8);
        Due.test("rule 1: the face", LanguageTests::face);
        Due.test("rules 2, 5, 11: classes, fields, parameters", LanguageTests::inside);
        Due.test("rules 4, 6: words", () -> words(source));
        Due.test("rule 7: no call throws, for any arguments in any state", LanguageTests::neverThrows);
        Due.test("rule 11: methods are short", () -> methodsAreShort(source));
        Due.test("rule 12: what a run makes", LanguageTests::room);
        Due.close();
    }
}
