import java.io.IOException;
import java.lang.reflect.Method;
import java.nio.file.DirectoryStream;
import java.nio.file.Files;
import java.nio.file.Path;
import java.util.ArrayList;
import java.util.List;
import java.util.Set;
import java.util.TreeSet;
import java.util.regex.Matcher;
import java.util.regex.Pattern;

/** What README.md says: the calls of its example answer what stands behind them, and it names every test. */
public final class ReadmeTest {
    private static final Pattern TEXT = Pattern.compile("feed\\(x, \"([^\"]*)\"\\);\\s*// (-?\\d+).*");
    private static final Pattern CALL = Pattern.compile("x\\.(\\w+)\\(([^)]*)\\);\\s*// (-?\\d+).*");

    public static void main(String[] args) throws Exception {
        String page = Files.readString(Path.of("README.md"));
        List<String> blocks = blocks(page);
        Due.is("java blocks of README.md", blocks.size(), 2);
        if (blocks.size() == 2) {
            helper(blocks.get(0));
            example(blocks.get(1));
        }
        tests(page);
        Due.end("ReadmeTest");
    }

    private static List<String> blocks(String page) {
        List<String> found = new ArrayList<>();
        Matcher m = Pattern.compile("(?s)```java\n(.*?)```").matcher(page);
        while (m.find()) {
            found.add(m.group(1));
        }
        return found;
    }

    /** README.md shows this method to the letter, so what is run here is what a reader copies. */
    private static void helper(String block) throws IOException {
        String own = Files.readString(Path.of("src/test/java/ReadmeTest.java")).replace("\n    ", "\n");
        Due.is("README.md shows the feed of ReadmeTest", own.contains("\n" + block) ? 1 : 0, 1);
    }

    static int feed(ReefLights x, String text) {
        int length = 0;
        for (int from = 0; from < text.length(); from += 8) {
            int n = Math.min(8, text.length() - from);
            long bytes = 0;
            for (int i = 0; i < n; i++) {
                bytes = bytes << 8 | text.charAt(from + i);
            }
            length = x.feed(n, bytes);
        }
        return length;
    }

    private static void example(String block) throws Exception {
        ReefLights x = new ReefLights();
        Set<String> called = new TreeSet<>();
        for (String line : block.split("\n")) {
            Matcher text = TEXT.matcher(line);
            Matcher call = CALL.matcher(line);
            if (text.matches()) {
                Due.is(line, feed(x, text.group(1)), Long.parseLong(text.group(2)));
            } else if (call.matches()) {
                called.add(call.group(1));
                Due.is(line, answer(x, call.group(1), call.group(2)), Long.parseLong(call.group(3)));
            } else {
                boolean isPlain = line.isEmpty() || line.startsWith("// ") || line.equals("ReefLights x = new ReefLights();");
                Due.is("a line of the example that is no call with its answer: " + line, isPlain ? 0 : 1, 0);
            }
        }
        Due.is("the example has calls (" + called + ")", called.size() >= 20 ? 1 : 0, 1);
    }

    private static long answer(ReefLights x, String name, String words) throws Exception {
        for (Method m : ReefLights.class.getMethods()) {
            if (!m.getName().equals(name)) {
                continue;
            }
            Class<?>[] types = m.getParameterTypes();
            String[] each = words.isEmpty() ? new String[0] : words.split(", ");
            Object[] given = new Object[each.length];
            for (int i = 0; i < each.length; i++) {
                given[i] = types[i] == boolean.class ? (Object) Boolean.valueOf(each[i]) : (Object) Integer.valueOf(each[i]);
            }
            return ((Number) m.invoke(x, given)).longValue();
        }
        throw new IllegalStateException("README.md calls " + name + ", which is not of the face");
    }

    private static void tests(String page) throws IOException {
        Due.is("README.md says how the tests are run", page.contains("\n    .ci/run\n") ? 1 : 0, 1);
        try (DirectoryStream<Path> files = Files.newDirectoryStream(Path.of("src/test/java"), "*Test.java")) {
            for (Path file : files) {
                String name = file.getFileName().toString().replace(".java", "");
                Due.is("README.md names " + name, page.contains("`" + name + "`") ? 1 : 0, 1);
            }
        }
    }
}
