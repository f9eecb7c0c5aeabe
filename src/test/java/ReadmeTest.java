import java.lang.reflect.Method;
import java.nio.charset.StandardCharsets;
import java.nio.file.Files;
import java.nio.file.Path;
import java.util.Arrays;
import java.util.regex.Matcher;
import java.util.regex.Pattern;

/** README.md's example is made call by call, and each call of the document stands on the page. */
public final class ReadmeTest {
    private static final Pattern CALL = Pattern.compile("choir\\.(\\w+)\\((.*?)\\); *// -> (true|false|-?\\d+)\\b.*");

    public static void main(String[] args) throws Exception {
        String page = Files.readString(Path.of("README.md"), StandardCharsets.UTF_8);
        example(page.substring(page.indexOf("```java"), page.indexOf("```\n")));
        for (Method m : ClockChoir.class.getMethods()) {
            if (m.getDeclaringClass() == ClockChoir.class) {
                Due.due(m.getName() + " is listed", true, page.contains("`" + m.getName() + "`"));
            }
        }
        for (String test : new java.io.File("src/test/java").list()) {
            if (test.endsWith("Test.java")) {
                Due.due(test + " is listed", true, page.contains("`" + test.replace(".java", "") + "`"));
            }
        }
        Due.due("how to run the tests", true, page.contains(".ci/run"));
        Due.finish("ReadmeTest");
    }

    private static void example(String lines) throws Exception {
        ClockChoir choir = new ClockChoir();
        int calls = 0;
        for (String line : lines.split("\n")) {
            if (!line.startsWith("choir.")) {
                continue;
            }
            Matcher m = CALL.matcher(line);
            Due.due("tells its answer: " + line, true, m.matches());
            Object[] numbers = m.group(2).isEmpty() ? new Object[0]
                    : Arrays.stream(m.group(2).split(", *")).map(Integer::decode).toArray();
            Class<?>[] ints = new Class<?>[numbers.length];
            Arrays.fill(ints, int.class);
            String got = "" + ClockChoir.class.getMethod(m.group(1), ints).invoke(choir, numbers);
            Due.due(line + " (answered " + got + ")", true, got.equals(m.group(3)));
            calls++;
        }
        Due.due("calls were made", true, calls > 20);
    }
}
