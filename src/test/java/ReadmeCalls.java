import java.io.IOException;
import java.nio.file.Files;
import java.nio.file.Path;
import java.util.ArrayList;
import java.util.List;
import java.util.regex.Matcher;
import java.util.regex.Pattern;

/**
 * Writes a class of the calls that README.md shows, into the directory told: ReadmeAnswers makes
 * them in their order and fails if one answers otherwise than the page says behind it.
 */
public final class ReadmeCalls {
    private static final Path README = Path.of("README.md");
    private static final Pattern BLOCK = Pattern.compile("(?s)\n```java\n(.*?)\n```\n");
    private static final Pattern ANSWERED =
        Pattern.compile("(?:int (\\w+) = )?(.*);\\s+// (-?\\d+|NONE|BAD|STATE|FULL|NO)(?::.*)?");
    private static final int CALLS = 36;

    private final List<String> lines = new ArrayList<>();
    private int answers = 0;

    public static void main(String[] args) throws IOException {
        String page = Files.readString(README);
        ReadmeCalls calls = new ReadmeCalls();
        Matcher block = BLOCK.matcher(page);
        while (block.find()) {
            for (String line : block.group(1).split("\n")) calls.add(line);
        }
        calls.showsAll(page);
        Files.createDirectories(Path.of(args[0]));
        Files.writeString(Path.of(args[0], "ReadmeAnswers.java"), calls.asClass());
    }

    /** A line with no answer behind it stands as it is; it may not hold a call that goes unlooked at, but to feed. */
    private void add(String line) {
        Matcher answered = ANSWERED.matcher(line);
        if (!answered.matches()) {
            boolean plain = line.isBlank() || line.equals("TwoPens x = new TwoPens();")
                || line.matches("for \\(char sign : \".*\"\\.toCharArray\\(\\)\\) x\\.feed\\(sign\\);");
            if (!plain) fail("no answer behind: " + line);
            lines.add(line);
            return;
        }
        answers++;
        String call = answered.group(2);
        if (answered.group(1) != null) {
            lines.add("int " + answered.group(1) + " = " + call + ";");
            call = answered.group(1);
        }
        String due = answered.group(3).matches("[A-Z]+") ? "TwoPens." + answered.group(3) : answered.group(3);
        lines.add("due(\"" + answered.group(2).replace("\"", "\\\"") + "\", " + call + ", " + due + ");");
    }

    private void showsAll(String page) {
        for (java.lang.reflect.Method m : TwoPens.class.getMethods()) {
            if (m.getDeclaringClass() != TwoPens.class) continue;
            boolean shown = page.matches("(?s).*\n[^\n]*\\bx\\." + m.getName() + "\\([^\n]*\\);\\s+// .*");
            if (!shown) fail("README.md shows no answer of " + m.getName());
        }
        if (answers < CALLS) fail("README.md shows " + answers + " answers");
    }

    private static void fail(String why) {
        System.out.println(why);
        System.exit(1);
    }

    private String asClass() {
        return "public final class ReadmeAnswers {\n"
            + "  private static int wrong = 0;\n"
            + "  private static void due(String call, long got, long want) {\n"
            + "    if (got == want) return;\n"
            + "    wrong++;\n"
            + "    System.out.println(\"README.md: \" + call + \" answered \" + got + \", the page says \" + want);\n"
            + "  }\n"
            + "  public static void main(String[] args) {\n    "
            + String.join("\n    ", lines) + "\n"
            + "    System.out.println(\"README.md: " + answers + " answers, \" + wrong + \" not as the page says\");\n"
            + "    if (wrong != 0) System.exit(1);\n"
            + "  }\n"
            + "}\n";
    }
}
