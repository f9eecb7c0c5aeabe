import java.io.IOException;
import java.nio.charset.StandardCharsets;
import java.nio.file.Files;
import java.nio.file.Path;
import java.util.Arrays;

/** What every test of the project uses: answers that are due, and texts on the tape. */
final class Due {
    private static int right = 0;
    private static int wrong = 0;
    private static String sentence = "";
    private static String document = "";

    private Due() {
    }

    /** The words of the document that the answers from here on are due by; told with each wrong one. */
    static void by(String words) {
        sentence = "";
        due("the document has these words: " + words, true, document().contains(words));
        sentence = words;
    }

    private static String document() {
        if (document.isEmpty()) {
            try {
                String text = Files.readString(Path.of("../shared/DOC.md"), StandardCharsets.UTF_8);
                document = text.replaceAll("\\s+", " ");
            } catch (IOException e) {
                System.out.println("../shared/DOC.md can't be read");
            }
        }
        return document;
    }

    static void due(String call, long want, long got) {
        if (got == want) {
            right++;
        } else {
            wrong++;
            System.out.println(call + " answered " + got + ", due is " + want
                    + (sentence.isEmpty() ? "" : ", by: " + sentence));
        }
    }

    static void due(String call, boolean want, boolean got) {
        due(call, want ? 1 : 0, got ? 1 : 0);
    }

    static void finish(String test) {
        System.out.println(test + ": " + right + " answers right, " + wrong + " wrong");
        if (wrong != 0 || right == 0) {
            System.exit(1);
        }
    }

    /** Feeds the text, filled up with a's to whole twenties. */
    static int feed(ClockChoir x, String text) {
        return feed(x, text.getBytes(StandardCharsets.ISO_8859_1));
    }

    static int feed(ClockChoir x, byte[] text) {
        byte[] bytes = Arrays.copyOf(text, (text.length + 19) / 20 * 20);
        Arrays.fill(bytes, text.length, bytes.length, (byte) 'a');
        int answer = x.count(7);
        for (int k = 0; k < bytes.length; k += 20) {
            answer = x.feed(word(bytes, k), word(bytes, k + 4), word(bytes, k + 8), word(bytes, k + 12), word(bytes, k + 16));
        }
        return answer;
    }

    private static int word(byte[] bytes, int k) {
        return (bytes[k] & 255) << 24 | (bytes[k + 1] & 255) << 16 | (bytes[k + 2] & 255) << 8 | bytes[k + 3] & 255;
    }

    static int roll(ClockChoir x, int i, String text) {
        feed(x, text);
        return x.roll(i, text.length());
    }

    static int law(ClockChoir x, String text) {
        feed(x, text);
        return x.law(text.length());
    }
}
