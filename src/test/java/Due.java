import java.io.IOException;
import java.nio.file.Files;
import java.nio.file.Path;

/** What the tests share: answers compared, told when they differ, and texts fed sign by sign. */
final class Due {
    private static final Path DOCUMENT = Path.of("../shared/DOC.md");

    private static int wrong = 0;
    private static int compared = 0;
    private static int sentences = 0;
    private static String promise = "";
    private static String document = null;

    private Due() {
    }

    static void promise(String name) {
        promise = name;
    }

    /** What follows tests this sentence; a quote that does not stand in the document is a fault, too. */
    static void sentence(String quote) {
        promise = quote;
        sentences++;
        is("stands in the document", document().contains(bare(quote)) ? 1 : 0, 1);
    }

    private static String document() {
        if (document == null) {
            try {
                document = bare(Files.readString(DOCUMENT));
            } catch (IOException e) {
                document = "";
            }
        }
        return document;
    }

    private static String bare(String text) {
        return text.replaceAll("\\s+", " ");
    }

    static void is(String call, long got, long want) {
        compared++;
        if (got != want) {
            wrong++;
            System.out.println(promise + ": " + call + " answered " + got + ", due is " + want);
        }
    }

    static void feed(TwoPens x, String text) {
        for (int i = 0; i < text.length(); i++) {
            x.feed(text.charAt(i));
        }
    }

    static int school(TwoPens x, String text) {
        feed(x, text);
        return x.school();
    }

    /** One way of each kind but TOLD, as the runs under ../shared/tests have them. */
    static TwoPens withWays() {
        TwoPens x = new TwoPens();
        x.way(0, 2, 10);
        x.way(1, 3, 12);
        x.way(2, 5, 9);
        x.way(3, 4, 1);
        x.way(4, 2, 15);
        x.way(5, 1, 20);
        return x;
    }

    static void end(String name) {
        String of = sentences > 0 ? " of " + sentences + " sentences" : "";
        System.out.println(name + ": " + compared + " answers" + of + ", " + wrong + " not as due");
        if (wrong != 0) {
            System.exit(1);
        }
    }
}
