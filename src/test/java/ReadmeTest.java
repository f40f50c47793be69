import java.io.IOException;
import java.lang.reflect.Field;
import java.lang.reflect.Method;
import java.lang.reflect.Modifier;
import java.nio.file.Files;
import java.nio.file.Path;
import java.util.List;
import java.util.regex.Matcher;
import java.util.regex.Pattern;
import java.util.stream.Stream;

/** README.md: its example answers what stands behind each line, and it names every call, constant and test. */
public final class ReadmeTest {
    private static final Pattern FED = Pattern.compile("feed\\(x, \"(.*)\"\\);.*");
    private static final Pattern ASKED = Pattern.compile("x\\.(\\w+)\\(([^)]*)\\);\\s*// (-?\\d+).*");

    public static void main(String[] args) throws IOException, ReflectiveOperationException {
        String page = Files.readString(Path.of("README.md"));
        int from = page.indexOf("```java");
        int to = from < 0 ? -1 : page.indexOf("```", from + 7);
        Check.isTrue("there is an example", to > 0);
        if (to > 0) {
            example(page.substring(from, to).split("\n"));
        }
        names(page);
        Check.end();
    }

    private static void example(String[] lines) throws ReflectiveOperationException {
        EggDrop x = new EggDrop();
        int calls = 0;
        for (String line : lines) {
            Matcher fed = FED.matcher(line);
            Matcher asked = ASKED.matcher(line);
            if (fed.matches()) {
                Check.feedAll(x, fed.group(1));
            } else if (asked.matches()) {
                calls++;
                Check.due(line, answer(x, asked.group(1), asked.group(2)), Long.parseLong(asked.group(3)));
            } else {
                Check.isTrue("a line that is no call with its answer: " + line, !line.startsWith("x."));
            }
        }
        Check.isTrue("some calls are shown", calls > 10);
    }

    private static long answer(EggDrop x, String name, String arguments) throws ReflectiveOperationException {
        Object[] all = Stream.of(arguments.split(", *")).filter(one -> !one.isEmpty()).map(Integer::valueOf).toArray();
        Class<?>[] types = Stream.of(all).map(one -> int.class).toArray(Class<?>[]::new);
        return ((Number) EggDrop.class.getMethod(name, types).invoke(x, all)).longValue();
    }

    private static void names(String page) throws IOException {
        for (Method method : EggDrop.class.getDeclaredMethods()) {
            boolean isFace = Modifier.isPublic(method.getModifiers());
            Check.isTrue("the call " + method.getName(), !isFace || page.contains("`" + method.getName() + "`"));
        }
        for (Field field : EggDrop.class.getFields()) {
            Check.isTrue("the constant " + field.getName(), page.contains("`" + field.getName() + "`"));
        }
        try (Stream<Path> files = Files.list(Path.of("src/test/java"))) {
            List<String> tests = files.map(file -> file.getFileName().toString()).sorted().toList();
            for (String test : tests) {
                Check.isTrue("the test " + test, page.contains("`" + test.replace(".java", "") + "`"));
            }
        }
    }
}
