import java.io.IOException;
import java.nio.file.Files;
import java.nio.file.Path;
import java.util.ArrayList;
import java.util.List;
import java.util.regex.Matcher;
import java.util.regex.Pattern;

/** The example of README.md answers what its comments say: each line is called by its name and its numbers. */
public final class ReadmeTest {

    private static final Pattern LINE = Pattern.compile("x\\.(\\w+)\\((.*)\\);\\s+// ('.'|-?\\d+).*");

    private ReadmeTest() {
    }

    public static void main(String[] args) throws IOException {
        Due.sentence("README.md", "an example, with the answers");
        List<String> lines = exampleLines(Files.readAllLines(Path.of("README.md")));
        Due.same("lines of the example of which there are at least 20", Math.min(lines.size(), 20), 20);
        ZoneCompiler x = new ZoneCompiler();
        for (String line : lines) {
            ask(x, line);
        }
        Due.end();
    }

    private static List<String> exampleLines(List<String> all) {
        List<String> found = new ArrayList<>();
        for (String line : all) {
            if (line.startsWith("x.")) {
                found.add(line);
            }
        }
        return found;
    }

    private static void ask(ZoneCompiler x, String line) {
        Matcher parts = LINE.matcher(line);
        if (!parts.matches()) {
            Due.fault("a line without an answer: " + line);
            return;
        }
        Due.alike(line, answer(x, parts.group(1), numbers(parts.group(2))), parts.group(3));
    }

    private static Object[] numbers(String text) {
        List<Object> found = new ArrayList<>();
        for (String number : text.isEmpty() ? new String[0] : text.split(", ")) {
            found.add(Integer.decode(number));
        }
        return found.toArray();
    }

    private static String answer(ZoneCompiler x, String name, Object[] numbers) {
        Class<?>[] types = new Class<?>[numbers.length];
        java.util.Arrays.fill(types, int.class);
        try {
            Object got = ZoneCompiler.class.getMethod(name, types).invoke(x, numbers);
            return got instanceof Character ? "'" + got + "'" : got.toString();
        } catch (ReflectiveOperationException broken) {
            return "an exception, " + broken.getCause();
        }
    }
}
