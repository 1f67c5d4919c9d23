import java.io.IOException;
import java.lang.reflect.Method;
import java.lang.reflect.Modifier;
import java.nio.file.DirectoryStream;
import java.nio.file.Files;
import java.nio.file.Path;
import java.util.HashMap;
import java.util.Map;
import java.util.TreeMap;
import java.util.TreeSet;
import java.util.regex.Matcher;
import java.util.regex.Pattern;

/** README.md is as the class and its tests are: its example answers so, and it names every call and every test. */
public final class ReadmeTest extends Check {
    private static final Path README = Path.of("README.md");
    private static final Path TESTS = Path.of("src/test/java");
    private static final Pattern EXAMPLE = Pattern.compile("(?s)```java\n(.*?)```");
    private static final Pattern CALL =
        Pattern.compile("(?:int (\\w+) = )?player\\.(\\w+)\\((.*?)\\);\\s*// (-?\\w+): .*");
    private static final Pattern ROW = Pattern.compile("(?m)^\\| `(\\w+)\\((.*?)\\)` \\|");
    private static final Pattern TEST = Pattern.compile("`(\\w+Test)`");

    public static void main(String[] args) throws IOException, ReflectiveOperationException {
        String text = Files.readString(README);
        example(text);
        calls(text);
        tests(text);
        end("README.md is as the class is");
    }

    private static void example(String text) throws ReflectiveOperationException {
        sentence("README.md: each comment begins with the call's answer");
        Matcher found = EXAMPLE.matcher(text);
        is(true, found.find());
        MoodPlayer player = new MoodPlayer();
        Map<String, Integer> names = new HashMap<>();
        TreeSet<String> called = new TreeSet<>();
        for (String line : found.group(1).split("\n")) {
            if (line.isEmpty() || line.equals("MoodPlayer player = new MoodPlayer();")) {
                continue;
            }
            Matcher call = CALL.matcher(line);
            if (!call.matches()) {
                is("a call with its answer", line);
                continue;
            }
            Object answer = answer(player, call.group(2), call.group(3), names);
            is(line + " " + call.group(4), line + " " + answer);
            called.add(call.group(2));
            if (call.group(1) != null) {
                names.put(call.group(1), (Integer) answer);
            }
        }
        is(face().keySet(), called);
    }

    private static Object answer(MoodPlayer player, String call, String told, Map<String, Integer> names)
        throws ReflectiveOperationException {
        String[] words = told.isEmpty() ? new String[0] : told.split(", ");
        Object[] values = new Object[words.length];
        for (int i = 0; i < words.length; i++) {
            values[i] = names.containsKey(words[i]) ? names.get(words[i]) : Integer.valueOf(words[i]);
        }
        return face().get(call).invoke(player, values);
    }

    private static Map<String, Method> face() {
        Map<String, Method> face = new TreeMap<>();
        for (Method m : MoodPlayer.class.getDeclaredMethods()) {
            if (Modifier.isPublic(m.getModifiers())) {
                face.put(m.getName(), m);
            }
        }
        return face;
    }

    private static void calls(String text) {
        sentence("README.md names every call");
        TreeSet<String> due = new TreeSet<>();
        for (Method m : face().values()) {
            due.add(m.getName() + " of " + m.getParameterCount());
        }
        TreeSet<String> rows = new TreeSet<>();
        Matcher row = ROW.matcher(text);
        while (row.find()) {
            int parameters = row.group(2).isEmpty() ? 0 : row.group(2).split(", ").length;
            rows.add(row.group(1) + " of " + parameters);
        }
        is(due, rows);
    }

    private static void tests(String text) throws IOException {
        sentence("README.md names every test");
        TreeSet<String> due = new TreeSet<>();
        try (DirectoryStream<Path> files = Files.newDirectoryStream(TESTS, "*.java")) {
            for (Path file : files) {
                due.add(file.getFileName().toString().replace(".java", ""));
            }
        }
        TreeSet<String> named = new TreeSet<>();
        Matcher name = TEST.matcher(text);
        while (name.find()) {
            named.add(name.group(1));
        }
        is(due, named);
    }
}
