import java.lang.reflect.Method;
import java.lang.reflect.Modifier;
import java.nio.file.Files;
import java.nio.file.Path;
import java.util.ArrayList;
import java.util.HashMap;
import java.util.List;
import java.util.Map;
import java.util.regex.Matcher;
import java.util.regex.Pattern;

/** README.md says how to use the class: its example is run, its tables are held against the class and the document. */
public final class ReadmeTests {
    private static final Pattern EXAMPLE = Pattern.compile("(?s)```java\n(.*?)```");
    private static final Pattern WRITTEN = Pattern.compile("\"([^\"]*)\"\\.toCharArray");
    private static final Pattern CALL = Pattern.compile("timer\\.(\\w+\\([^)]*\\));\\s*// (-?\\w+).*");
    private static final Pattern CALL_ROW = Pattern.compile("\\| `(\\w+)\\(([^)]*)\\)` +\\|([^|]*)\\|([^|]*)\\|");
    private static final Pattern KIND_ROW = Pattern.compile("\\| `(\\w)` +\\| (\\d) \\w+ *\\| (\\d).*");
    private static final Pattern REFUSAL = Pattern.compile("\\b(UNKNOWN|OUTSIDE|STATE|FULL)\\b");
    private static final Pattern PROMISE = Pattern.compile("(?s)## Promise \\d+: (\\w+)\n\n(.*?)\n\n##");

    public static void main(String[] args) throws Exception {
        String home = System.getProperty("onetimer.home", ".");
        String readme = Files.readString(Path.of(home, "README.md"));
        String document = Files.readString(Path.of(home, "..", "shared", "DOC.md"));
        example(readme);
        kinds(readme);
        calls(readme, document);
        tests(readme, Path.of(home, "src", "test", "java"));
        Asked.end();
    }

    private static void example(String readme) {
        Matcher block = EXAMPLE.matcher(readme);
        if (!block.find()) {
            Asked.wrong("README.md has no example");
            return;
        }
        StringBuilder steps = new StringBuilder();
        for (String line : block.group(1).split("\n")) {
            Matcher written = WRITTEN.matcher(line);
            Matcher call = CALL.matcher(line);
            if (written.find()) {
                steps.append('<').append(written.group(1)).append("> ");
            } else if (call.matches()) {
                steps.append(call.group(1).replace(" ", "")).append('=').append(call.group(2)).append(' ');
            }
        }
        Asked.due("README.md, calls of the example", steps.toString().split(" ").length, 21);
        Script.run("README.md", steps.toString());
    }

    private static void kinds(String readme) {
        int kinds = 0;
        for (String line : readme.split("\n")) {
            Matcher row = KIND_ROW.matcher(line);
            if (row.matches()) {
                String kitchen = "[" + row.group(1) + "05,p01;601] ";
                Script.run("README.md", kitchen + "about(0,0)=" + row.group(2) + " about(0,2)=" + row.group(3));
                kinds++;
            }
        }
        Asked.due("README.md, kinds", kinds, 5);
    }

    private static List<String> refusals(String text) {
        List<String> found = new ArrayList<>();
        Matcher refusal = REFUSAL.matcher(text);
        while (refusal.find()) {
            found.add(refusal.group());
        }
        return found;
    }

    /** A row for each call of the face, with as many numbers, and with the refusals of its promise, in their order. */
    private static void calls(String readme, String document) {
        Map<String, List<String>> promised = new HashMap<>();
        Matcher promise = PROMISE.matcher(document);
        for (int from = 0; promise.find(from); from = promise.end() - 2) {
            promised.put(promise.group(1), refusals(promise.group(2)));
        }
        Map<String, Integer> numbers = new HashMap<>();
        for (String line : readme.split("\n")) {
            Matcher row = CALL_ROW.matcher(line);
            if (row.matches()) {
                String name = row.group(1);
                numbers.put(name, row.group(2).isEmpty() ? 0 : row.group(2).split(",").length);
                if (!refusals(row.group(4)).equals(promised.get(name))) {
                    Asked.wrong("README.md, " + name + " refuses by" + row.group(4) + ", not " + promised.get(name));
                }
            }
        }
        int face = 0;
        for (Method method : OneTimer.class.getDeclaredMethods()) {
            if (Modifier.isPublic(method.getModifiers())) {
                face++;
                String name = method.getName();
                Asked.due("README.md, numbers of " + name, numbers.getOrDefault(name, -1), method.getParameterCount());
            }
        }
        Asked.due("README.md, rows of calls", numbers.size(), face);
    }

    private static void tests(String readme, Path directory) throws Exception {
        if (!readme.contains("`.ci/run`")) {
            Asked.wrong("README.md does not say how to run the tests");
        }
        try (var files = Files.list(directory)) {
            for (Path file : (Iterable<Path>) files::iterator) {
                String name = file.getFileName().toString().replace(".java", "");
                if (!readme.contains("- `" + name + "`: ")) {
                    Asked.wrong("README.md does not tell of the test " + name);
                }
            }
        }
    }
}
