import java.lang.reflect.Constructor;
import java.lang.reflect.Field;
import java.lang.reflect.Method;
import java.lang.reflect.Modifier;
import java.util.ArrayList;
import java.util.List;

/** 'The public face' of the document, line by line, and what it says ahead of the calls. */
final class Face {
    private Face() {
    }

    static void all(String document, String source) {
        Due.test("the public face: each line as it stands there, and no other", () -> lines(document));
        Due.test("the public face: the source has each line, in the order of the document", () -> inOrder(face(document), source));
        Due.test("the public face: each call is a promise, with the same line", () -> promised(document));
        Due.test("'Ahead of the calls .. the interface says': so the source says, too", () -> inOrder(saidAhead(document), source));
    }

    /** The lines between the braces of the document's class. */
    private static List<String> face(String document) {
        int from = document.indexOf("public final class DoorOfLuck {");
        int to = document.indexOf("```", from);
        List<String> lines = new ArrayList<>();
        for (String line : document.substring(from, to).split("\n")) {
            if (line.startsWith("    ")) lines.add(line.trim().replaceAll(";$", ""));
        }
        return lines;
    }

    private static void lines(String document) {
        List<String> due = new ArrayList<>();
        for (String line : face(document)) due.addAll(plain(line));
        List<String> is = new ArrayList<>();
        for (Field f : DoorOfLuck.class.getDeclaredFields()) if (!Modifier.isPrivate(f.getModifiers())) is.add(told(f));
        for (Constructor<?> c : DoorOfLuck.class.getDeclaredConstructors()) {
            is.add(Modifier.toString(c.getModifiers()) + " DoorOfLuck(" + types(c.getParameterTypes()) + ")");
        }
        for (Method m : DoorOfLuck.class.getDeclaredMethods()) if (!Modifier.isPrivate(m.getModifiers())) is.add(told(m));
        for (String line : due) if (!is.contains(line)) Due.tell("there is no " + line);
        for (String line : is) if (!due.contains(line)) Due.tell("the document has no " + line);
        Due.is("lines", is.size(), due.size());
        Due.is("calls, the constructor one of them", due.size() - 5, 42);
    }

    /** A line of the document without the names of parameters; a line of several constants as several. */
    private static List<String> plain(String line) {
        if (line.contains("(")) return List.of(line.replaceAll("(int|long) [a-zA-Z]+(?=[,)])", "$1"));
        String[] parts = line.replaceAll("(?<=\\d)L$", "").split("int |long ", 2);
        String head = line.contains(" long ") ? "public static final long " : "public static final int ";
        List<String> all = new ArrayList<>();
        for (String one : parts[1].split(", ")) all.add(head + one);
        return all;
    }

    private static String told(Field f) {
        try {
            return Modifier.toString(f.getModifiers()) + " " + f.getType() + " " + f.getName() + " = " + f.get(null);
        } catch (IllegalAccessException hidden) {
            return f + " is hidden";
        }
    }

    private static String told(Method m) {
        return Modifier.toString(m.getModifiers()) + " " + m.getReturnType() + " " + m.getName() + "(" + types(m.getParameterTypes()) + ")";
    }

    private static String types(Class<?>[] types) {
        List<String> names = new ArrayList<>();
        for (Class<?> type : types) names.add(type.getName());
        return String.join(", ", names);
    }

    private static void inOrder(List<String> lines, String source) {
        int at = -1;
        for (String line : lines) {
            int next = source.indexOf(line, at + 1);
            if (next < 0) Due.tell("'" + line + "' does not stand in the source, or not in this order");
            else at = next;
        }
    }

    private static void promised(String document) {
        List<String> face = face(document);
        for (int promise = 1; promise <= 42; promise++) {
            int from = document.indexOf("## Promise " + promise + ":");
            int tick = document.indexOf('`', from);
            String line = document.substring(tick + 1, document.indexOf('`', tick + 1));
            // Two lines of constants stand ahead of the calls.
            if (!("public " + line).equals(face.get(promise + 1))) Due.tell("promise " + promise + " is of " + line);
        }
    }

    /** For each of these sections what is said, then the calls behind it. */
    private static List<String> saidAhead(String document) {
        List<String> lines = new ArrayList<>();
        for (String line : document.split("\n")) {
            if (!line.startsWith("Ahead of the calls `")) continue;
            String said = line.substring(line.indexOf("----"));
            lines.add("// " + said.replaceAll("\\.$", ""));
            for (String word : line.substring(0, line.indexOf("the interface")).split("`")) {
                if (word.matches("[a-zA-Z]+")) lines.add(" " + word + "(");
            }
        }
        return lines;
    }
}
