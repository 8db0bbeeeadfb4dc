import java.io.IOException;
import java.lang.reflect.Field;
import java.lang.reflect.Method;
import java.lang.reflect.Modifier;
import java.nio.file.Files;
import java.nio.file.Path;
import java.util.ArrayList;
import java.util.HashSet;
import java.util.List;
import java.util.Set;
import java.util.regex.Matcher;
import java.util.regex.Pattern;

/** What of ../shared/LANGUAGE.md can be seen from the text and the classes: words, names, sizes. */
public final class LanguageTest {
    private static final Path SOURCE = Path.of("src/main/java/TwoPens.java");
    private static final String[] NEVER = {
        "\\bthrow\\b", "\\bthrows\\b", "\\btry\\b", "\\bcatch\\b", "\\bsynchronized\\b", "\\bassert\\b",
        "->", "::", "\\bimport\\b", "\\bpackage\\b", "Exact\\b", "\\bequals\\b", "\\bhashCode\\b",
        "\\btoString\\b", "\\bSystem\\.(?!arraycopy)", "static\\s*\\{", "\\bprotected\\b", "\\bMap\\b",
        "\\bdouble\\b", "\\bfloat\\b", "\\bwhile\\s*\\(true\\)", "for\\s*\\(\\s*;\\s*;",
    };

    public static void main(String[] args) throws IOException {
        Due.promise("LANGUAGE.md");
        String code = bare(Files.readString(SOURCE));
        words(code);
        face();
        sizes(code);
        Due.end("LanguageTest");
    }

    private static String bare(String text) {
        return text.replaceAll("(?s)/\\*.*?\\*/", "").replaceAll("//[^\n]*", "")
            .replaceAll("\"[^\"\n]*\"", "\"\"").replaceAll("'[^'\n]+'", "' '");
    }

    private static void words(String code) {
        for (String word : NEVER) {
            Due.is("found " + word, Pattern.compile(word).matcher(code).find() ? 1 : 0, 0);
        }
    }

    private static List<Class<?>> classes() {
        List<Class<?>> classes = new ArrayList<>(List.of(TwoPens.class));
        classes.addAll(List.of(TwoPens.class.getDeclaredClasses()));
        return classes;
    }

    private static void face() {
        Set<String> face = new HashSet<>();
        for (Method m : TwoPens.class.getDeclaredMethods()) {
            if (Modifier.isPublic(m.getModifiers())) face.add(m.getName());
        }
        Due.is("public methods", face.size(), 35);
        Due.is("fields of the face", TwoPens.class.getFields().length, 5);
        Due.is("constructors", TwoPens.class.getConstructors().length, 1);
        Due.is("final", Modifier.isFinal(TwoPens.class.getModifiers()) ? 1 : 0, 1);
        Due.is("twelve classes", classes().size() <= 12 ? 1 : 0, 1);
        for (Class<?> c : classes()) members(c, face);
    }

    private static void members(Class<?> c, Set<String> face) {
        boolean own = c != TwoPens.class;
        if (own) Due.is(c + " is static", Modifier.isStatic(c.getModifiers()) ? 1 : 0, 1);
        for (Method m : c.getDeclaredMethods()) {
            boolean shown = Modifier.isPublic(m.getModifiers());
            Due.is(m + " of seven parameters", m.getParameterCount() <= 7 ? 1 : 0, 1);
            Due.is(m + " has a name of its own", !shown && face.contains(m.getName()) ? 1 : 0, 0);
            Due.is(m + " is private", shown || own || Modifier.isPrivate(m.getModifiers()) ? 1 : 0, 1);
        }
        int fields = 0;
        for (Field f : c.getDeclaredFields()) {
            if (!Modifier.isStatic(f.getModifiers())) fields++;
            else Due.is(f + " is final", Modifier.isFinal(f.getModifiers()) ? 1 : 0, 1);
        }
        Due.is(c + " has twenty fields", fields <= 20 ? 1 : 0, 1);
    }

    private static void sizes(String code) {
        Matcher head = Pattern.compile("(?m)^( +)[\\w\\[\\] ]+\\([^)]*\\) \\{$").matcher(code);
        int methods = 0;
        while (head.find()) {
            if (head.group().matches("(?s) +(if|for|while|switch|else|do).*")) continue;
            methods++;
            int end = code.indexOf("\n" + head.group(1) + "}", head.end());
            long lines = code.substring(head.start(), end).lines().count() + 1;
            Due.is(head.group().trim() + " is short", lines <= 60 ? 1 : 0, 1);
        }
        Due.is("methods found", methods > 100 ? 1 : 0, 1);
    }
}
