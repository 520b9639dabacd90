import java.io.IOException;
import java.lang.reflect.Method;
import java.nio.file.Files;
import java.nio.file.Path;
import java.util.ArrayList;
import java.util.List;
import java.util.regex.Matcher;
import java.util.regex.Pattern;
import java.util.stream.Stream;

/** What README.md says: its example is run, line by line, and each test stands in its table. */
public final class ReadmeTest {
    private static final Check CHECK = new Check();
    private static final Pattern MADE = Pattern.compile("TagDraw x = new TagDraw\\(\\);");
    private static final Pattern CALL = Pattern.compile("x\\.(\\w+)\\(([^()]*)\\);\\s+// (-?\\d+)(:.*)?");
    private static final Pattern PACKED = Pattern.compile("// \"(.*)\", (\\d+) bytes.*");

    private TagDraw x;
    private String text = "";
    private int fed;
    private int calls;

    public static void main(String[] args) throws ReflectiveOperationException, IOException {
        List<String> page = Files.readAllLines(Path.of("README.md"));
        new ReadmeTest().example(blocks(page));
        testsAreNamed(String.join("\n", page));
        CHECK.end("ReadmeTest");
    }

    /** The lines of all blocks of Java. */
    private static List<String> blocks(List<String> page) {
        List<String> lines = new ArrayList<>();
        boolean inside = false;
        for (String line : page) {
            if (line.startsWith("```")) {
                inside = line.equals("```java");
            } else if (inside) {
                lines.add(line);
            }
        }
        return lines;
    }

    private void example(List<String> lines) throws ReflectiveOperationException {
        for (String line : lines) {
            Matcher call = CALL.matcher(line);
            Matcher packed = PACKED.matcher(line);
            if (MADE.matcher(line).matches()) {
                x = new TagDraw();
            } else if (packed.matches()) {
                text = packed.group(1);
                fed = 0;
                CHECK.due("the length in " + line, text.length(), Integer.parseInt(packed.group(2)));
            } else if (call.matches()) {
                call(line, call.group(1), numbers(call.group(2)), Long.parseLong(call.group(3)));
            } else {
                CHECK.due("a line that is no call: " + line, 1, 0);
            }
        }
        CHECK.due("whether the example has calls", calls > 0 ? 1 : 0, 1);
    }

    private static int[] numbers(String list) {
        return Stream.of(list.split(",")).map(String::strip).filter(n -> !n.isEmpty())
            .mapToInt(Integer::decode).toArray();
    }

    private void call(String line, String name, int[] numbers, long want) throws ReflectiveOperationException {
        Class<?>[] kinds = new Class<?>[numbers.length];
        Object[] arguments = new Object[numbers.length];
        for (int i = 0; i < numbers.length; i++) {
            kinds[i] = int.class;
            arguments[i] = numbers[i];
        }
        if (name.equals("feed")) {
            fed(line, numbers);
        }
        Method method = TagDraw.class.getMethod(name, kinds);
        CHECK.due(line, ((Number) method.invoke(x, arguments)).longValue(), want);
        calls++;
    }

    /** The text that the comment ahead of it tells is the one that goes on the tape. */
    private void fed(String line, int[] numbers) {
        int[] due = Check.packed(text, fed);
        for (int i = 0; i < due.length; i++) {
            CHECK.due("number " + i + " in " + line, numbers[i], due[i]);
        }
        fed += 20;
    }

    private static void testsAreNamed(String page) throws IOException {
        try (Stream<Path> files = Files.list(Path.of("src/test/java"))) {
            files.map(f -> f.getFileName().toString().replace(".java", "")).filter(f -> f.endsWith("Test"))
                .forEach(f -> CHECK.due("whether README.md has " + f, page.contains("| `" + f + "` |") ? 1 : 0, 1));
        }
    }
}
