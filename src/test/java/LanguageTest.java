import java.lang.reflect.Method;
import java.nio.charset.StandardCharsets;
import java.nio.file.Files;
import java.nio.file.Path;
import java.util.List;
import java.util.regex.Matcher;
import java.util.regex.Pattern;

/** What of ../shared/LANGUAGE.md can be seen by looking through the source line by line. */
public final class LanguageTest {
    private static final String[] FORBIDDEN = {
        "throw", "throws", "try", "catch", "finally", "synchronized", "assert", "import", "package", "protected",
        "double", "float", "String", "StringBuilder", "Integer.MAX_VALUE", "Integer.MIN_VALUE", "Exact", "var",
        "System", "Object", "hashCode", "toString", "volatile", "native", "record",
    };

    private static final List<String> LIBRARY = List.of("Math.abs", "Math.max", "Math.min", "Integer.bitCount");

    public static void main(String[] args) throws Exception {
        String source = Files.readString(Path.of("src/main/java/ClockChoir.java"), StandardCharsets.UTF_8);
        String code = bare(source);
        for (String word : FORBIDDEN) {
            Due.due("no " + word, false, Pattern.compile("\\b" + Pattern.quote(word) + "\\b").matcher(code).find());
        }
        Due.due("no ->", false, code.contains("->"));
        Due.due("no ::", false, code.contains("::"));
        Due.due("no static block", false, Pattern.compile("\\bstatic\\s*\\{").matcher(code).find());
        Due.due("ASCII alone", true, source.chars().allMatch(c -> c < 127));
        Due.due("classes inside", true, many(code, "\\bclass [A-Z]") - 1 <= 12);
        Due.due("static ones", many(code, "\\bclass [A-Z]") - 1, many(code, "private static final class [A-Z]"));
        Due.due("static fields are final", 0, many(code, "\\bstatic (?!final\\b)\\w+(\\[\\])? \\w+( =|;)"));
        Due.due("loops with an end in their own lines", 0, many(code, "while \\((true|1)|for \\(;;"));
        methods(code);
        names(code);
        library(code);
        Due.finish("LanguageTest");
    }

    /** A class inside has no method with a name of the face either. */
    private static void names(String code) {
        for (Method m : ClockChoir.class.getMethods()) {
            if (m.getDeclaringClass() == ClockChoir.class) {
                String head = "(void|int|boolean|int\\[\\]|[A-Z]\\w*) " + m.getName() + "\\(";
                Due.due("methods named " + m.getName(), 1, many(code, head));
            }
        }
    }

    private static void library(String code) {
        Matcher m = Pattern.compile("\\b(Math|Integer|Long|Arrays|List|Character|Boolean)\\.(\\w+)").matcher(code);
        while (m.find()) {
            Due.due("in the list of rule 4: " + m.group(), true, LIBRARY.contains(m.group()));
        }
    }

    private static String bare(String source) {
        String code = source.replaceAll("'(\\\\.|[^'])'", "' '");
        code = Pattern.compile("/\\*.*?\\*/", Pattern.DOTALL).matcher(code).replaceAll(m -> m.group().replaceAll("[^\n]", ""));
        return code.replaceAll("//[^\n]*", "");
    }

    private static int many(String code, String pattern) {
        Matcher m = Pattern.compile(pattern).matcher(code);
        int some = 0;
        while (m.find()) {
            some++;
        }
        return some;
    }

    /** A method begins at an indent of 4 or 8 and ends with the brace at the same indent. */
    private static void methods(String code) {
        String[] lines = code.split("\n", -1);
        Pattern head = Pattern.compile("^( {4}| {8})(?!private static final class)[a-zA-Z].*\\w\\((.*?)\\)? ?\\{?$");
        int seen = 0;
        for (int n = 0; n < lines.length; n++) {
            Matcher m = head.matcher(lines[n]);
            if (!m.matches() || lines[n].endsWith(";") || lines[n].matches(" *(if|for|while|switch|return|else|do)\\b.*")) {
                continue;
            }
            int end = n;
            while (end < lines.length && !lines[end].equals(m.group(1) + "}")) {
                end++;
            }
            seen++;
            Due.due("some sixty lines at most: " + lines[n].trim(), true, end - n <= 60);
            Due.due("seven parameters at most: " + lines[n].trim(), true, m.group(2).split(",").length <= 7);
            // The rows are made with the object: no method but a constructor makes anything.
            boolean maker = lines[n].trim().matches("(public )?[A-Z]\\w*\\(.*");
            for (int k = n; k < end && !maker; k++) {
                Due.due("nothing is made in " + lines[n].trim(), false, lines[k].matches(".*\\bnew\\b.*"));
            }
        }
        Due.due("methods were seen", true, seen > 100);
    }
}
