import java.io.DataInputStream;
import java.io.IOException;
import java.io.InputStream;
import java.lang.reflect.Field;
import java.lang.reflect.Method;
import java.lang.reflect.Modifier;
import java.nio.file.Files;
import java.nio.file.Path;
import java.util.ArrayList;
import java.util.HashSet;
import java.util.List;
import java.util.Set;
import java.util.regex.Matcher;
import java.util.regex.Pattern;

/** What of ../shared/LANGUAGE.md can be seen from the text and the classes: words, names, sizes. */
public final class LanguageTest {
    private static final Path SOURCE = Path.of("src/main/java/TwoPens.java");
    private static final String[] NEVER = {
        "\\bthrow\\b", "\\bthrows\\b", "\\btry\\b", "\\bcatch\\b", "\\bsynchronized\\b", "\\bassert\\b",
        "->", "::", "\\bimport\\b", "\\bpackage\\b", "Exact\\b", "\\bequals\\b", "\\bhashCode\\b",
        "\\btoString\\b", "\\bSystem\\.(?!arraycopy)", "static\\s*\\{", "\\bprotected\\b", "\\bMap\\b",
        "\\bdouble\\b", "\\bfloat\\b", "\\bwhile\\s*\\(true\\)", "for\\s*\\(\\s*;\\s*;",
    };

    /** Rule 4, as far as a class that keeps to its own rows may need it: what is called, by class. */
    private static final Set<String> LIBRARY = Set.of("java/lang/Object.<init>", "java/lang/String.length",
        "java/lang/String.charAt", "java/lang/String.isEmpty", "java/lang/String.equals",
        "java/lang/String.indexOf", "java/lang/String.substring", "java/lang/String.toCharArray",
        "java/lang/Math.abs", "java/lang/Math.min", "java/lang/Math.max", "java/lang/Math.floorMod",
        "java/lang/Math.floorDiv", "java/lang/System.arraycopy", "java/util/Arrays.copyOf",
        "java/util/Arrays.copyOfRange", "java/util/Arrays.fill", "[I.clone");

    public static void main(String[] args) throws IOException {
        Due.promise("LANGUAGE.md");
        String code = bare(Files.readString(SOURCE));
        words(code);
        library(code);
        face();
        sizes(code);
        Due.end("LanguageTest");
    }

    private static String bare(String text) {
        return text.replaceAll("(?s)/\\*.*?\\*/", "").replaceAll("//[^\n]*", "")
            .replaceAll("\"[^\"\n]*\"", "\"\"").replaceAll("'[^'\n]+'", "' '");
    }

    private static void words(String code) {
        for (String word : NEVER) {
            Due.is("found " + word, Pattern.compile(word).matcher(code).find() ? 1 : 0, 0);
        }
    }

    /** Constants of the library are gone from the compiled classes: those are looked for in the text. */
    private static void library(String code) throws IOException {
        Matcher constant = Pattern.compile("\\b(Integer|Long|Math)\\.[A-Z_]+\\b").matcher(code);
        while (constant.find()) {
            Due.is("may be used: " + constant.group(), constant.group().equals("Long.MIN_VALUE") ? 1 : 0, 1);
        }
        int called = 0;
        for (Class<?> c : classes()) {
            for (String member : membersAskedFor(c)) {
                if (member.startsWith("TwoPens")) continue;
                called++;
                Due.is(c + " may use " + member, LIBRARY.contains(member) ? 1 : 0, 1);
            }
        }
        Due.is("members of the library found", called > classes().size() ? 1 : 0, 1);
    }

    /** Methods and fields in the pool of constants of a compiled class, as Class.name. */
    private static List<String> membersAskedFor(Class<?> c) throws IOException {
        try (InputStream bytes = c.getResourceAsStream(c.getName() + ".class");
                DataInputStream in = new DataInputStream(bytes)) {
            in.skipBytes(8);
            int size = in.readUnsignedShort();
            String[] texts = new String[size];
            int[][] links = new int[size][];
            for (int i = 1; i < size; i++) {
                int tag = in.readUnsignedByte();
                if (tag == 1) texts[i] = in.readUTF();
                else links[i] = link(in, tag);
                if (tag == 5 || tag == 6) i++;
            }
            return membersIn(texts, links);
        }
    }

    /** The tag and the one or two places that it leads to. */
    private static int[] link(DataInputStream in, int tag) throws IOException {
        switch (tag) {
            case 5: case 6: in.skipBytes(8); return new int[] {tag};
            case 3: case 4: in.skipBytes(4); return new int[] {tag};
            case 7: case 8: case 16: case 19: case 20: return new int[] {tag, in.readUnsignedShort()};
            case 15: in.skipBytes(3); return new int[] {tag};
            default: return new int[] {tag, in.readUnsignedShort(), in.readUnsignedShort()};
        }
    }

    private static List<String> membersIn(String[] texts, int[][] links) {
        List<String> members = new ArrayList<>();
        for (int[] link : links) {
            if (link == null) continue;
            if (link[0] == 17 || link[0] == 18) members.add("a call that is bound as it runs");
            if (link[0] < 9 || link[0] > 11) continue;
            members.add(texts[links[link[1]][1]] + "." + texts[links[link[2]][1]]);
        }
        return members;
    }

    private static List<Class<?>> classes() {
        List<Class<?>> classes = new ArrayList<>(List.of(TwoPens.class));
        classes.addAll(List.of(TwoPens.class.getDeclaredClasses()));
        return classes;
    }

    private static void face() {
        Set<String> face = new HashSet<>();
        for (Method m : TwoPens.class.getDeclaredMethods()) {
            if (Modifier.isPublic(m.getModifiers())) face.add(m.getName());
        }
        Due.is("public methods", face.size(), 35);
        Due.is("fields of the face", TwoPens.class.getFields().length, 5);
        Due.is("constructors", TwoPens.class.getConstructors().length, 1);
        Due.is("final", Modifier.isFinal(TwoPens.class.getModifiers()) ? 1 : 0, 1);
        Due.is("twelve classes", classes().size() <= 12 ? 1 : 0, 1);
        for (Class<?> c : classes()) members(c, face);
    }

    private static void members(Class<?> c, Set<String> face) {
        boolean own = c != TwoPens.class;
        if (own) Due.is(c + " is static", Modifier.isStatic(c.getModifiers()) ? 1 : 0, 1);
        for (Method m : c.getDeclaredMethods()) {
            boolean shown = Modifier.isPublic(m.getModifiers());
            Due.is(m + " of seven parameters", m.getParameterCount() <= 7 ? 1 : 0, 1);
            Due.is(m + " has a name of its own", !shown && face.contains(m.getName()) ? 1 : 0, 0);
            Due.is(m + " is private", shown || own || Modifier.isPrivate(m.getModifiers()) ? 1 : 0, 1);
        }
        int fields = 0;
        for (Field f : c.getDeclaredFields()) {
            if (!Modifier.isStatic(f.getModifiers())) fields++;
            else Due.is(f + " is final", Modifier.isFinal(f.getModifiers()) ? 1 : 0, 1);
        }
        Due.is(c + " has twenty fields", fields <= 20 ? 1 : 0, 1);
    }

    private static void sizes(String code) {
        Matcher head = Pattern.compile("(?m)^( +)[\\w\\[\\] ]+\\([^)]*\\) \\{$").matcher(code);
        int methods = 0;
        while (head.find()) {
            if (head.group().matches("(?s) +(if|for|while|switch|else|do).*")) continue;
            methods++;
            int end = code.indexOf("\n" + head.group(1) + "}", head.end());
            long lines = code.substring(head.start(), end).lines().count() + 1;
            Due.is(head.group().trim() + " is short", lines <= 60 ? 1 : 0, 1);
        }
        Due.is("methods found", methods > 100 ? 1 : 0, 1);
    }
}
