import java.lang.reflect.Method;
import java.nio.file.Files;
import java.nio.file.Path;
import java.util.regex.Matcher;
import java.util.regex.Pattern;

/** README.md: its face is the document's, and its run of calls answers as it says. */
public final class ReadmeTest {
    private static final Check CHECK = new Check("ReadmeTest");
    private static final Pattern FED = Pattern.compile("feed\\(x, \"(.*)\"\\);");
    private static final Pattern CALLED = Pattern.compile("x\\.(\\w+)\\((.*)\\); +// (-?\\d+)(: .*)?");

    private ReadmeTest() {
    }

    public static void main(String[] args) throws Exception {
        String readme = Files.readString(Path.of("README.md"));
        String doc = Files.readString(Path.of("../shared/DOC.md"));
        String face = block(doc, "## The public face");
        CHECK.is("the face is the document's", face.equals(block(readme, "### The public face")) ? 1 : 0, 1);
        run(block(readme, "### A run of calls"));
        tests(readme);
        CHECK.end();
    }

    /** The first Java that stands behind a head. */
    private static String block(String text, String head) {
        int from = text.indexOf("```java\n", text.indexOf(head)) + 8;
        return text.substring(from, text.indexOf("```", from));
    }

    private static void run(String block) throws Exception {
        NoKnot x = new NoKnot();
        int calls = 0;
        for (String line : block.split("\n")) {
            if (line.isBlank() || line.equals("NoKnot x = new NoKnot();")) continue;
            Matcher fed = FED.matcher(line);
            Matcher called = CALLED.matcher(line);
            if (fed.matches()) {
                CHECK.is(line, Check.feed(x, fed.group(1)) > 0 ? 1 : 0, 1);
            } else if (called.matches()) {
                CHECK.is(line, answer(x, called.group(1), called.group(2)), Long.parseLong(called.group(3)));
                calls++;
            } else {
                CHECK.is("a line that is no call: " + line, 0, 1);
            }
        }
        CHECK.is("a run of calls", calls >= 20 ? 1 : 0, 1);
    }

    private static long answer(NoKnot x, String name, String given) throws Exception {
        String[] parts = given.isEmpty() ? new String[0] : given.split(", ");
        for (Method m : NoKnot.class.getMethods()) {
            if (!m.getName().equals(name) || m.getParameterCount() != parts.length) continue;
            Object[] values = new Object[parts.length];
            for (int k = 0; k < parts.length; k++) values[k] = value(parts[k], m.getParameterTypes()[k]);
            return ((Number) m.invoke(x, values)).longValue();
        }
        throw new IllegalArgumentException("no call " + name + "(" + given + ")");
    }

    private static Object value(String text, Class<?> type) {
        if (type == boolean.class) return text.equals("true");
        if (text.equals("NoKnot.NONE")) return NoKnot.NONE;
        return type == long.class ? (Object) Long.parseLong(text.replace("L", "")) : (Object) Integer.parseInt(text);
    }

    /** Each test of the project stands on the page. */
    private static void tests(String readme) throws Exception {
        try (var files = Files.list(Path.of("src/test/java"))) {
            for (Path file : files.toList()) {
                String name = file.getFileName().toString().replace(".java", "");
                if (name.endsWith("Test")) CHECK.is("README.md tells of " + name, readme.contains("`" + name + "`") ? 1 : 0, 1);
            }
        }
    }
}
