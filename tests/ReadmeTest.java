import java.io.IOException;
import java.lang.reflect.Method;
import java.lang.reflect.Modifier;
import java.nio.file.Files;
import java.nio.file.Path;
import java.util.Arrays;
import java.util.List;
import java.util.Set;
import java.util.TreeSet;
import java.util.regex.Matcher;
import java.util.regex.Pattern;
import java.util.stream.Collectors;
import java.util.stream.Stream;

/** README.md: its calls answer what it says, it shows every call of the face, and it names the tests that there are. */
public final class ReadmeTest {
    private static final Check CHECK = new Check("ReadmeTest");
    private static final Path README = Path.of("README.md");
    private static final int MOST_CALLS = 512;

    private static final Pattern NEW = Pattern.compile("RowShutter camera = new RowShutter\\(\\);");
    private static final Pattern FEED = Pattern.compile("for \\(char c : \"([^\"]*)\"\\.toCharArray\\(\\)\\) \\{ camera\\.feed\\(c\\); \\}");
    private static final Pattern CALL = Pattern.compile("camera\\.(\\w+)\\(([-\\d, ]*)\\); +// (-?\\d+|BAD|STATE|FULL|NONE)(:.*)?");

    private RowShutter camera;
    private int calls;
    private final Set<String> shown = new TreeSet<>();

    public static void main(String[] args) throws Exception {
        ReadmeTest test = new ReadmeTest();
        List<String> lines = Files.readAllLines(README);
        boolean inside = false;
        for (String line : lines) {
            if (line.startsWith("```")) {
                inside = line.equals("```java");
            } else if (inside && !line.isBlank()) {
                test.follow(line.strip());
            }
        }
        test.showsEveryCall();
        namesEveryTest(String.join("\n", lines));
        CHECK.finish();
    }

    private void follow(String line) throws Exception {
        Matcher feed = FEED.matcher(line);
        Matcher call = CALL.matcher(line);
        if (NEW.matcher(line).matches()) {
            camera = new RowShutter();
            calls = 0;
        } else if (feed.matches() && camera != null) {
            Check.feed(camera, feed.group(1));
            countCalls("feed", feed.group(1).length());
        } else if (call.matches() && camera != null) {
            CHECK.due(line, answer(call.group(1), call.group(2)), due(call.group(3)));
            countCalls(call.group(1), 1);
        } else {
            CHECK.holds("a line of README.md that is no call with its answer: " + line, false);
        }
    }

    private void countCalls(String name, int more) {
        shown.add(name);
        calls += more;
        CHECK.holds("README.md uses an object for more than " + MOST_CALLS + " calls", calls <= MOST_CALLS);
    }

    private long answer(String name, String arguments) throws Exception {
        Object[] values = arguments.isBlank() ? new Object[0]
                : Arrays.stream(arguments.split(",")).map(a -> Integer.valueOf(a.strip())).toArray();
        Class<?>[] types = new Class<?>[values.length];
        Arrays.fill(types, int.class);
        return ((Number) RowShutter.class.getMethod(name, types).invoke(camera, values)).longValue();
    }

    private static long due(String told) throws Exception {
        return Character.isLetter(told.charAt(0)) ? RowShutter.class.getField(told).getInt(null) : Long.parseLong(told);
    }

    private void showsEveryCall() {
        for (Method method : RowShutter.class.getDeclaredMethods()) {
            if (Modifier.isPublic(method.getModifiers())) {
                CHECK.holds("README.md does not show " + method.getName(), shown.contains(method.getName()));
            }
        }
    }

    private static void namesEveryTest(String readme) throws IOException {
        Set<String> named = new TreeSet<>();
        Matcher name = Pattern.compile("`(\\w+Test)`").matcher(readme);
        while (name.find()) {
            named.add(name.group(1));
        }
        try (Stream<Path> files = Files.list(Path.of("tests"))) {
            Set<String> there = files.map(file -> file.getFileName().toString()).filter(file -> file.endsWith("Test.java"))
                    .map(file -> file.substring(0, file.length() - ".java".length())).collect(Collectors.toCollection(TreeSet::new));
            CHECK.holds("the tests are " + there + ", README.md names " + named, named.equals(there));
        }
        CHECK.holds("README.md does not say how the tests are run", readme.contains(".ci/run"));
    }
}
