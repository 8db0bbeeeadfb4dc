import java.io.IOException;
import java.lang.reflect.Field;
import java.lang.reflect.Member;
import java.lang.reflect.Method;
import java.lang.reflect.Modifier;
import java.nio.file.Files;
import java.nio.file.Path;
import java.util.ArrayList;
import java.util.List;
import java.util.TreeSet;
import java.util.regex.Matcher;
import java.util.regex.Pattern;

/** 'The public face' as the document writes it: what the class shows, its constants, the heads of the promises. */
public final class FaceTest {
    private static final Path SOURCE = Path.of("src/main/java/TwoPens.java");
    private static final Path DOCUMENT = Path.of("../shared/DOC.md");
    private static final Pattern METHOD = Pattern.compile("public (int|long) (\\w+)\\(([^)]*)\\);");
    private static final Pattern PROMISE = Pattern.compile("## Promise (\\d+): (\\w+)\\s+`(int|long) (\\w+)\\(([^)]*)\\)`:");
    private static final Pattern SAYS = Pattern.compile("Ahead of the calls ([^\n]*?) the interface says: (---- [^\n]*)\\.\n");

    public static void main(String[] args) throws IOException {
        String document = Files.readString(DOCUMENT);
        String face = face(document);
        shown(face);
        constants(face);
        noSuchNumber();
        promises(document, face);
        saysAhead(document, Files.readString(SOURCE));
        Due.end("FaceTest");
    }

    private static String face(String document) {
        int from = document.indexOf("```java");
        return document.substring(from, document.indexOf("```\n", from));
    }

    /** Types alone: the names of what is told may differ. */
    private static String types(String told) {
        return told.replaceAll("(int|long) \\w+", "$1").replace(" ", "");
    }

    private static List<String> methodsOf(String face) {
        List<String> methods = new ArrayList<>();
        Matcher method = METHOD.matcher(face);
        while (method.find()) methods.add(method.group(1) + " " + method.group(2) + "(" + types(method.group(3)) + ")");
        return methods;
    }

    private static boolean isOpen(Member m) {
        return !Modifier.isPrivate(m.getModifiers());
    }

    private static String told(Method m) {
        StringBuilder types = new StringBuilder();
        for (Class<?> type : m.getParameterTypes()) types.append(types.length() > 0 ? "," : "").append(type.getName());
        return m.getReturnType().getName() + " " + m.getName() + "(" + types + ")";
    }

    private static void shown(String face) {
        Due.sentence("public final class TwoPens {");
        int modifiers = TwoPens.class.getModifiers();
        Due.is("public", Modifier.isPublic(modifiers) ? 1 : 0, 1);
        Due.is("final", Modifier.isFinal(modifiers) ? 1 : 0, 1);
        Due.is("in no package", TwoPens.class.getPackageName().length(), 0);
        TreeSet<String> open = new TreeSet<>();
        for (Method m : TwoPens.class.getDeclaredMethods()) {
            if (!isOpen(m)) continue;
            open.add(told(m));
            Due.is(m + " is public", Modifier.isPublic(m.getModifiers()) ? 1 : 0, 1);
            Due.is(m + " is of an object", Modifier.isStatic(m.getModifiers()) ? 1 : 0, 0);
        }
        TreeSet<String> due = new TreeSet<>(methodsOf(face));
        Due.is("the document's methods", due.size(), 35);
        for (String method : due) Due.is("there is " + method, open.contains(method) ? 1 : 0, 1);
        for (String method : open) Due.is("the document has " + method, due.contains(method) ? 1 : 0, 1);
        Due.sentence("public TwoPens();");
        Due.is("constructors", TwoPens.class.getDeclaredConstructors().length, 1);
        Due.is("public ones", TwoPens.class.getConstructors().length, 1);
        Due.is("of nothing", TwoPens.class.getConstructors()[0].getParameterCount(), 0);
    }

    private static void constants(String face) {
        Due.sentence("public static final int NONE = -1, BAD = -2, STATE = -3, FULL = -4; public static final long NO = Long.MIN_VALUE;");
        Due.is("NONE", TwoPens.NONE, -1);
        Due.is("BAD", TwoPens.BAD, -2);
        Due.is("STATE", TwoPens.STATE, -3);
        Due.is("FULL", TwoPens.FULL, -4);
        Due.is("NO", TwoPens.NO, -9223372036854775808L);
        int open = 0;
        for (Field f : TwoPens.class.getDeclaredFields()) {
            if (!isOpen(f)) continue;
            open++;
            Class<?> type = f.getName().equals("NO") ? long.class : int.class;
            Due.is(f + " is of the face", face.matches("(?s).*\\b" + f.getName() + " = .*") ? 1 : 0, 1);
            Due.is(f + " has its type", f.getType() == type ? 1 : 0, 1);
            Due.is(f + " is constant", f.getModifiers(), Modifier.PUBLIC | Modifier.STATIC | Modifier.FINAL);
        }
        Due.is("five constants", open, 5);
    }

    /** It is no answer that a fraction can have, and not the NONE of the ints. */
    private static void noSuchNumber() {
        Due.sentence("The constants: `NO = Long.MIN_VALUE`: There is no such number.");
        TwoPens x = new TwoPens();
        for (int part : new int[] {-1, 2}) {
            Due.is("safe(" + part + ")", x.safe(part), TwoPens.NO);
            Due.is("again(" + part + ")", x.again(part), TwoPens.NO);
            Due.is("twice(1, " + part + ")", x.twice(1, part), TwoPens.NO);
            Due.is("table(.., " + part + ")", x.table(0, 0, 0, 0, part), TwoPens.NO);
            Due.is("mean(.., " + part + ")", x.mean(0, 0, part), TwoPens.NO);
        }
        Due.is("twice(0, 0)", x.twice(0, 0), TwoPens.NO);
        Due.is("mean without days", x.mean(1, 1, 0), TwoPens.NO);
        Due.is("table(100, ..)", x.table(100, 0, 0, 0, 0), TwoPens.NO);
    }

    private static void promises(String document, String face) {
        Due.promise("heads of the promises");
        List<String> methods = methodsOf(face);
        Matcher promise = PROMISE.matcher(document);
        int next = 2;
        while (promise.find()) {
            Due.is("number of " + promise.group(2), Integer.parseInt(promise.group(1)), next);
            Due.is("name of " + promise.group(2), promise.group(2).equals(promise.group(4)) ? 1 : 0, 1);
            String head = promise.group(3) + " " + promise.group(4) + "(" + types(promise.group(5)) + ")";
            Due.is("in the face's order: " + head, methods.indexOf(head), next - 2);
            next++;
        }
        Due.is("promises 2 to 36", next, 37);
    }

    /** The class is the interface: the same words stand ahead of the same calls, in the same order. */
    private static void saysAhead(String document, String source) {
        Due.promise("what the interface says");
        Matcher says = SAYS.matcher(document);
        int at = 0;
        int groups = 0;
        while (says.find()) {
            groups++;
            int from = source.indexOf("// " + says.group(2) + "\n", at);
            Due.is("'" + says.group(2) + "' stands behind the ones ahead of it", from >= at ? 1 : 0, 1);
            if (from < 0) continue;
            int to = source.indexOf("// ----", from + 8);
            Due.is("the calls behind '" + says.group(2) + "'",
                callsIn(source.substring(from, to)).equals(says.group(1).replace("`", "")) ? 1 : 0, 1);
            at = from + 1;
        }
        Due.is("groups of calls", groups, 5);
    }

    private static String callsIn(String source) {
        StringBuilder calls = new StringBuilder();
        Matcher method = Pattern.compile("(?m)^    public (?:int|long) (\\w+)\\(").matcher(source);
        while (method.find()) calls.append(calls.length() > 0 ? ", " : "").append(method.group(1));
        return calls.toString();
    }
}
