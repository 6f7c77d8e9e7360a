import java.lang.reflect.Field;
import java.lang.reflect.Method;
import java.lang.reflect.Modifier;
import java.nio.file.Files;
import java.nio.file.Path;
import java.util.Arrays;
import java.util.HashSet;
import java.util.Set;
import java.util.regex.Pattern;

/** What of LANGUAGE.md can be seen in the text of the program. */
public final class LanguageTest {
    private static final Check CHECK = new Check();

    public static void main(String[] args) throws Exception {
        String file = args.length > 0 ? args[0] : "src/main/java/ThornSchool.java";
        String text = Files.readString(Path.of(file));
        String code = bare(text);
        words(code);
        sizes(code);
        face(code);
        CHECK.end();
    }

    /** The text without comments, and without what stands in texts. */
    private static String bare(String s) {
        return s.replaceAll("\"(\\\\.|[^\"\\\\])*\"", "\"\"").replaceAll("(?s)/\\*.*?\\*/", "").replaceAll("//[^\n]*", "");
    }

    private static boolean has(String code, String pattern) {
        return Pattern.compile(pattern, Pattern.MULTILINE).matcher(code).find();
    }

    private static void words(String code) {
        for (String word : Arrays.asList("throw", "throws", "try", "catch", "finally", "synchronized", "assert", "package", "native",
            "protected", "volatile", "transient", "Thread", "Random", "NaN", "nanoTime", "currentTimeMillis", "getenv")) {
            CHECK.yes("no " + word, !has(code, "\\b" + word + "\\b"));
        }
        CHECK.yes("of the library what is allowed alone", !has(code, "^import (?!java\\.util\\.(ArrayList|List|Arrays|Iterator);)"));
        CHECK.yes("of System arraycopy alone", !has(code, "\\bSystem\\b(?!\\.arraycopy\\b)"));
        CHECK.yes("no lambda", !has(code, "^(?!\\s*(case|default)\\b).*->"));
        CHECK.yes("no method reference", !code.contains("::"));
        CHECK.yes("no static initialiser", !has(code, "static\\s*\\{"));
        CHECK.yes("no joining of texts", !code.contains("\" +") && !code.contains("+ \""));
        CHECK.yes("no function that throws", !has(code, "Exact\\("));
        CHECK.yes("each loop has an end", !code.contains("while (true)") && !code.contains("for (;;)"));
        CHECK.yes("static fields are final", !has(code, "\\bstatic\\s+(?!final\\b)[^(;={]*[;=]"));
        CHECK.yes("inner classes are static", !has(code, "^\\s+(private |final |abstract )*class\\b"));
    }

    private static void sizes(String code) {
        String[] lines = code.split("\n");
        int start = -1;
        int classes = 0;
        for (int i = 0; i < lines.length; i++) {
            if (lines[i].matches("\\s*(public|private|static|final).*\\b(class|interface|enum|record) \\w+.*")) classes++;
            if (lines[i].matches("\\s+(?!else|for|if|while|switch|return|do\\b).*\\)\\s*\\{") && !lines[i].contains(" class ") && start < 0
                && lines[i].matches("(    |        )\\S.*")) {
                start = i;
                String inside = lines[i].substring(lines[i].indexOf('('));
                CHECK.yes("at most seven parameters: " + lines[i], inside.split(",").length <= 7);
            }
            if (start >= 0 && lines[i].matches("(    |        )\\}") && indent(lines[i]) == indent(lines[start])) {
                CHECK.yes("some sixty lines: " + lines[start], i - start < 66);
                start = -1;
            }
        }
        CHECK.yes("some twelve classes, not " + classes, classes <= 13);
    }

    private static int indent(String line) {
        return line.length() - line.stripLeading().length();
    }

    private static void face(String code) {
        Set<String> open = new HashSet<>();
        for (Method m : ThornSchool.class.getDeclaredMethods()) {
            if (m.isSynthetic()) continue;
            CHECK.yes(m + " is public or private", Modifier.isPublic(m.getModifiers()) || Modifier.isPrivate(m.getModifiers()));
            if (Modifier.isPublic(m.getModifiers())) open.add(m.getName());
        }
        CHECK.same("public methods", open.size(), 54);
        for (Field f : ThornSchool.class.getDeclaredFields()) {
            CHECK.yes(f + " is private", Modifier.isPrivate(f.getModifiers()) || f.getName().equals("NONE"));
        }
        CHECK.yes("the class is final", Modifier.isFinal(ThornSchool.class.getModifiers()));
        for (Class<?> c : ThornSchool.class.getDeclaredClasses()) {
            CHECK.yes(c + " is static, neither public nor protected", Modifier.isStatic(c.getModifiers()) && (c.getModifiers() & (Modifier.PUBLIC | Modifier.PROTECTED)) == 0);
            for (Method m : c.getDeclaredMethods()) CHECK.yes(m + " has a name of its own", !Modifier.isPrivate(m.getModifiers()) || !open.contains(m.getName()));
            CHECK.yes(c + " has some twenty fields", variables(c) <= 24);
        }
        for (Method m : ThornSchool.class.getDeclaredMethods()) {
            CHECK.yes(m + " has a name of its own", Modifier.isPublic(m.getModifiers()) || !open.contains(m.getName()));
        }
        CHECK.yes("some twenty fields", variables(ThornSchool.class) <= 24);
        CHECK.yes("one public class", code.split("public final class").length == 2);
    }

    private static int variables(Class<?> c) {
        int many = 0;
        for (Field f : c.getDeclaredFields()) if (!Modifier.isStatic(f.getModifiers())) many++;
        return many;
    }
}
