import java.io.IOException;
import java.nio.file.DirectoryStream;
import java.nio.file.Files;
import java.nio.file.Path;
import java.util.ArrayList;
import java.util.List;
import java.util.regex.Matcher;
import java.util.regex.Pattern;

/**
 * Every mark of a bound in the document (a span, a most, a refusal, an answer for none) stands in a
 * sentence that some test quotes by Due.sentence, and every promise has one.
 */
public final class SentencesTest {
    private static final Pattern QUOTE = Pattern.compile("Due\\.sentence\\(\"((?:[^\"\\\\]|\\\\.)*)\"\\)");
    private static final Pattern MARK = Pattern.compile("-?\\d+ \\.\\. |at most|\\bNONE\\b|\\bBAD\\b"
        + "|\\bSTATE\\b|\\bFULL\\b|\\bNO:|-5\\b|-6\\b|-10\\b|\\(-1|if less|if more|too early|\\bnone\\b"
        + "|\\(cut\\)|wrapping|of several|is empty|without|beyond|fewer than|no more than|less 1"
        + "|are kept|at first|as told|above 0|no two alike|512|no such|place 0|none then|is left");

    public static void main(String[] args) throws IOException {
        Due.promise("sentences");
        String text = bare(Files.readString(Path.of("../shared/DOC.md")));
        boolean[] quoted = quoted(text);
        marks(text, quoted, text.indexOf("An object is used"), text.indexOf("## The public face"));
        marks(text, quoted, text.indexOf("## Terms"), text.indexOf("## Not promised"));
        promises(text, quoted);
        Due.end("SentencesTest");
    }

    private static String bare(String text) {
        return text.replaceAll("\\s+", " ");
    }

    private static List<String> quotes() throws IOException {
        List<String> quotes = new ArrayList<>();
        try (DirectoryStream<Path> files = Files.newDirectoryStream(Path.of("src/test/java"), "*Test.java")) {
            for (Path file : files) {
                Matcher quote = QUOTE.matcher(Files.readString(file));
                while (quote.find()) quotes.add(bare(quote.group(1)));
            }
        }
        return quotes;
    }

    private static boolean[] quoted(String text) throws IOException {
        boolean[] quoted = new boolean[text.length()];
        for (String quote : quotes()) {
            for (int at = text.indexOf(quote); at >= 0; at = text.indexOf(quote, at + 1)) {
                for (int i = at; i < at + quote.length(); i++) quoted[i] = true;
            }
        }
        return quoted;
    }

    private static void marks(String text, boolean[] quoted, int from, int to) {
        Matcher mark = MARK.matcher(text).region(from, to);
        int marks = 0;
        while (mark.find()) {
            marks++;
            String around = text.substring(Math.max(from, mark.start() - 60), Math.min(to, mark.end() + 60));
            Due.is("a test for '" + mark.group() + "' in '.." + around + "..'", quoted[mark.start()] ? 1 : 0, 1);
        }
        Due.is("marks found", marks > 0 ? 1 : 0, 1);
    }

    private static void promises(String text, boolean[] quoted) {
        for (int n = 1; n <= 36; n++) {
            int from = text.indexOf(new StringBuilder("## Promise ").append(n).append(':').toString());
            int to = text.indexOf("## ", from + 3);
            boolean tested = false;
            for (int i = from; i >= 0 && i < to; i++) tested |= quoted[i];
            Due.is("a sentence of promise " + n, tested ? 1 : 0, 1);
        }
    }
}
