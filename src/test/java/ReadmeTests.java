import java.io.IOException;
import java.lang.reflect.InvocationTargetException;
import java.lang.reflect.Method;
import java.nio.file.Files;
import java.nio.file.Path;
import java.util.ArrayList;
import java.util.List;
import java.util.Set;
import java.util.TreeSet;
import java.util.function.Supplier;
import java.util.regex.Matcher;
import java.util.regex.Pattern;
import java.util.stream.Stream;

/** What README.md says: its calls, one after the other on one object, with their answers, and its list of tests. */
public final class ReadmeTests {
    private static final String MADE = "    PaddockFields board = new PaddockFields();";
    private static final Pattern CALL = Pattern.compile(" {4}board\\.(\\w+)\\((.*?)\\); *(?:// (.*))?");
    private static final Pattern LISTED = Pattern.compile("- `(\\w+)`: .*");

    private ReadmeTests() {
    }

    public static void main(String[] args) throws IOException {
        List<String> lines = Files.readAllLines(Path.of("README.md"));
        calls(lines);
        listedTests(lines);
        for (String path : List.of("src/main/java/PaddockFields.java", ".ci/run")) {
            Check.due("README.md names " + path, true, () -> lines.stream().anyMatch(line -> line.contains(path)));
            Check.due(path + " is there", true, () -> Files.exists(Path.of(path)));
        }
        Check.end("ReadmeTests");
    }

    private static void calls(List<String> lines) {
        PaddockFields board = null;
        int calls = 0;
        for (String line : lines) {
            Matcher call = CALL.matcher(line);
            if (line.equals(MADE)) {
                board = new PaddockFields();
            } else if (call.matches()) {
                replay(board, call);
                calls++;
            } else {
                Check.due("a call that can be read: " + line, false, () -> line.contains("board."));
            }
        }
        int found = calls;
        Check.due("README.md shows calls", true, () -> found > 0);
    }

    private static void replay(PaddockFields board, Matcher call) {
        String answer = call.group(3) == null ? "done" : call.group(3);
        String due = answer.replace("throws ", "throws.");
        Check.due("README.md, " + call.group(0).strip(), due, answerTo(board, call.group(1), valuesOf(call.group(2))));
    }

    private static Object[] valuesOf(String list) {
        List<Integer> values = new ArrayList<>();
        for (String value : list.isEmpty() ? new String[0] : list.split(", ")) {
            values.add(value.startsWith("'") ? value.charAt(1) : Integer.parseInt(value));
        }
        return values.toArray();
    }

    private static Supplier<Object> answerTo(PaddockFields board, String name, Object[] values) {
        return () -> {
            try {
                Method method = Stream.of(PaddockFields.class.getMethods()).filter(m -> m.getName().equals(name))
                        .findFirst().orElseThrow();
                Object answer = method.invoke(board, values);
                return answer == null ? "done" : answer;
            } catch (InvocationTargetException e) {
                throw (RuntimeException) e.getCause();
            } catch (IllegalAccessException e) {
                throw new AssertionError(e);
            }
        };
    }

    private static void listedTests(List<String> lines) throws IOException {
        Set<String> listed = new TreeSet<>();
        for (String line : lines) {
            Matcher entry = LISTED.matcher(line);
            if (entry.matches()) {
                listed.add(entry.group(1));
            }
        }
        Check.due("the tests that README.md lists", testsThatRun(), () -> listed);
    }

    private static Set<String> testsThatRun() throws IOException {
        Set<String> tests = new TreeSet<>();
        try (Stream<Path> files = Files.list(Path.of("src/test/java"))) {
            for (Path file : files.toList()) {
                if (Files.readString(file).contains("public static void main(String")) {
                    tests.add(file.getFileName().toString().replace(".java", ""));
                }
            }
        }
        return tests;
    }
}
