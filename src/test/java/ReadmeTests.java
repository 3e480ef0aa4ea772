import java.io.IOException;
import java.lang.reflect.Method;
import java.nio.charset.StandardCharsets;
import java.nio.file.Files;
import java.nio.file.Path;
import java.util.ArrayList;
import java.util.HashMap;
import java.util.List;
import java.util.Map;
import java.util.regex.Matcher;
import java.util.regex.Pattern;

/** What README.md says of the class: its example, its list of calls, its numbers below 0. */
public final class ReadmeTests {
    private static final Pattern STEP = Pattern.compile("(?:int (\\w+) = )?x\\.(\\w+)\\(([^)]*)\\);\\s+// (-?\\d+):.*");

    private ReadmeTests() {
    }

    private static void example(String readme) {
        int from = readme.indexOf("```java");
        String[] lines = readme.substring(from, readme.indexOf("```\n", from + 7)).split("\n");
        Due.is("it begins with an object", lines[1].equals("DoorOfLuck x = new DoorOfLuck();") ? 1 : 0, 1);
        DoorOfLuck x = new DoorOfLuck();
        Map<String, Integer> known = new HashMap<>();
        for (int i = 2; i < lines.length; i++) {
            Matcher step = STEP.matcher(lines[i]);
            if (!step.matches()) {
                Due.tell("no call and its answer: " + lines[i]);
                continue;
            }
            int answer = called(x, step.group(2), step.group(3), known);
            Due.is(lines[i], answer, Integer.parseInt(step.group(4)));
            if (step.group(1) != null) known.put(step.group(1), answer);
        }
    }

    private static int called(DoorOfLuck x, String name, String told, Map<String, Integer> known) {
        String[] words = told.isEmpty() ? new String[0] : told.split(", ");
        Object[] args = new Object[words.length];
        for (int i = 0; i < args.length; i++) {
            args[i] = known.containsKey(words[i]) ? known.get(words[i]) : Integer.valueOf(words[i]);
        }
        for (Method m : DoorOfLuck.class.getDeclaredMethods()) {
            if (!m.getName().equals(name)) continue;
            try {
                return (int) m.invoke(x, args);
            } catch (ReflectiveOperationException thrown) {
                Due.tell(name + ": " + thrown);
            }
        }
        return Integer.MIN_VALUE;
    }

    /** The list has each call of the document's face, by the same names, in the same order, and no other. */
    private static void calls(String readme, String document) {
        List<String> due = new ArrayList<>();
        Matcher face = Pattern.compile("    public (?:int|long) (\\w+)\\(([^)]*)\\);").matcher(document);
        while (face.find()) due.add(face.group(1) + "(" + face.group(2).replace("int ", "") + ")");
        List<String> is = new ArrayList<>();
        Matcher row = Pattern.compile("\n\\| `(\\w+\\([^`]*\\))` \\|").matcher(readme);
        while (row.find()) is.add(row.group(1));
        if (!is.equals(due)) Due.tell("it has " + is + ", due is " + due);
        Due.is("calls", is.size(), 41);
    }

    private static void numbers(String readme) {
        String[] due = {"-1 (`NONE`)", "-2 (`BAD`)", "-3 (`STATE`)", "-4 (`FULL`)", "-5", "-6", "-7", "-11", "-12", "-13", "-14",
            "-100 and less", "-1000", "`NO`"};
        for (String number : due) if (!readme.contains("\n| " + number + " | ")) Due.tell("it says nothing of " + number);
        if (!readme.contains("at most 512 calls after it has been made")) Due.tell("it says nothing of 512 calls");
    }

    public static void main(String[] args) throws IOException {
        String readme = Files.readString(Path.of(args[0]), StandardCharsets.UTF_8);
        String document = Files.readString(Path.of(args[1]), StandardCharsets.UTF_8);
        Due.test("README.md: its example answers what it says", () -> example(readme));
        Due.test("README.md: each call, in the order of the face", () -> calls(readme, document));
        Due.test("README.md: numbers below 0, and how long an object is used", () -> numbers(readme));
        Due.close();
    }
}
