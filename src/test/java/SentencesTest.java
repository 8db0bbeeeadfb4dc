import java.io.IOException;
import java.nio.file.DirectoryStream;
import java.nio.file.Files;
import java.nio.file.Path;
import java.util.ArrayList;
import java.util.List;
import java.util.regex.Matcher;
import java.util.regex.Pattern;

/**
 * Every word of 'Terms' and of the promises, and the sentence of the 512 calls, stands in a quote of
 * some test (Due.sentence). What is left out is no sentence of its own: fences, and what FaceTest
 * reads from the document itself (the heads of the promises, what the interface says).
 */
public final class SentencesTest {
    private static final Pattern QUOTE = Pattern.compile("Due\\.sentence\\(\"((?:[^\"\\\\]|\\\\.)*)\"\\)");
    private static final Pattern NO_SENTENCE = Pattern.compile("==== \\d|```text|```"
        + "|Ahead of the calls .*? the interface says: ---- .*?\\. (?=Ahead|##)"
        + "|## Promise \\d+: (A new object|\\w+)( `[^`]*\\)`:)?");
    private static final Pattern WORD = Pattern.compile("[^ .,:;()]+");

    public static void main(String[] args) throws IOException {
        Due.promise("sentences");
        String text = bare(Files.readString(Path.of("../shared/DOC.md")));
        boolean[] quoted = quoted(text);
        words(text, quoted, text.indexOf("An object is used"), text.indexOf("## The public face"), 20);
        words(text, quoted, text.indexOf("==== 1"), text.indexOf("## Not promised"), 1500);
        promises(text, quoted);
        Due.end("SentencesTest");
    }

    private static String bare(String text) {
        return text.replaceAll("\\s+", " ");
    }

    private static List<String> quotes() throws IOException {
        List<String> quotes = new ArrayList<>();
        try (DirectoryStream<Path> files = Files.newDirectoryStream(Path.of("src/test/java"), "*Test.java")) {
            for (Path file : files) {
                Matcher quote = QUOTE.matcher(Files.readString(file));
                while (quote.find()) quotes.add(bare(quote.group(1)));
            }
        }
        return quotes;
    }

    private static boolean[] quoted(String text) throws IOException {
        boolean[] quoted = new boolean[text.length()];
        for (String quote : quotes()) {
            for (int at = text.indexOf(quote); at >= 0; at = text.indexOf(quote, at + 1)) {
                for (int i = at; i < at + quote.length(); i++) quoted[i] = true;
            }
        }
        return quoted;
    }

    private static void words(String text, boolean[] quoted, int from, int to, int least) {
        boolean[] left = quoted.clone();
        Matcher none = NO_SENTENCE.matcher(text).region(from, to);
        while (none.find()) {
            for (int i = none.start(); i < none.end(); i++) left[i] = true;
        }
        Matcher word = WORD.matcher(text).region(from, to);
        int words = 0;
        while (word.find()) {
            words++;
            String around = text.substring(Math.max(from, word.start() - 30), Math.min(to, word.end() + 30));
            Due.is("a test for '" + word.group() + "' in '.." + around + "..'", left[word.start()] ? 1 : 0, 1);
        }
        Due.is("words found", words >= least ? 1 : 0, 1);
    }

    private static void promises(String text, boolean[] quoted) {
        for (int n = 1; n <= 36; n++) {
            int from = text.indexOf(new StringBuilder("## Promise ").append(n).append(':').toString());
            int to = text.indexOf("## ", from + 3);
            boolean tested = false;
            for (int i = from; i >= 0 && i < to; i++) tested |= quoted[i];
            Due.is("a sentence of promise " + n, tested ? 1 : 0, 1);
        }
    }
}
