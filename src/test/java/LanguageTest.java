import java.lang.reflect.Field;
import java.lang.reflect.Method;
import java.lang.reflect.Modifier;
import java.nio.file.Files;
import java.nio.file.Path;
import java.util.Arrays;
import java.util.HashSet;
import java.util.Set;
import java.util.regex.Matcher;
import java.util.regex.Pattern;

/** What of LANGUAGE.md can be seen in the text of the program. */
public final class LanguageTest {
    private static final Check CHECK = new Check();

    public static void main(String[] args) throws Exception {
        String file = args.length > 0 ? args[0] : "src/main/java/ThornSchool.java";
        String text = Files.readString(Path.of(file));
        String code = bare(text);
        words(code);
        sizes(code);
        face(code);
        CHECK.end();
    }

    /** The text without comments, and without what stands in texts. */
    private static String bare(String s) {
        return s.replaceAll("\"(\\\\.|[^\"\\\\])*\"", "\"\"").replaceAll("(?s)/\\*.*?\\*/", "").replaceAll("//[^\n]*", "");
    }

    private static void words(String code) {
        for (String word : Arrays.asList("throw", "throws", "try", "catch", "finally", "synchronized", "assert", "import", "package", "native",
            "protected", "volatile", "transient", "enum", "record", "goto", "System", "Object", "equals", "hashCode", "toString", "Thread", "Random", "NaN")) {
            CHECK.yes("no " + word, !Pattern.compile("\\b" + word + "\\b").matcher(code).find());
        }
        CHECK.yes("no lambda", !code.contains("->"));
        CHECK.yes("no method reference", !code.contains("::"));
        CHECK.yes("no static initialiser", !Pattern.compile("static\\s*\\{").matcher(code).find());
        CHECK.yes("no joining of texts", !code.contains("\" +") && !code.contains("+ \""));
        CHECK.yes("no function that throws", !code.contains("Exact"));
        CHECK.yes("no while (true)", !code.contains("while (true)") && !code.contains("for (;;)"));
        Matcher m = Pattern.compile("\\bstatic\\s+(?!final\\b)[^(;={]*[;=]").matcher(code);
        CHECK.yes("static fields are final", !m.find());
        Matcher c = Pattern.compile("^    private static (?!final class)\\w* ?class", Pattern.MULTILINE).matcher(code);
        CHECK.yes("inner classes are static and final", !c.find());
    }

    private static void sizes(String code) {
        String[] lines = code.split("\n");
        int start = -1;
        int classes = 0;
        for (int i = 0; i < lines.length; i++) {
            if (lines[i].matches("\\s*(public|private).*\\bclass \\w+.*")) classes++;
            if (lines[i].matches("\\s+(?!else|for|if|while|switch|return|do\\b).*\\)\\s*\\{") && !lines[i].contains(" class ") && start < 0
                && lines[i].matches("(    |        )\\S.*")) {
                start = i;
                String inside = lines[i].substring(lines[i].indexOf('('));
                CHECK.yes("at most seven parameters: " + lines[i], inside.split(",").length <= 7);
            }
            if (start >= 0 && lines[i].matches("(    |        )\\}") && indent(lines[i]) == indent(lines[start])) {
                CHECK.yes("at most sixty lines: " + lines[start], i - start < 60);
                start = -1;
            }
        }
        CHECK.yes("at most twelve classes, not " + classes, classes <= 12);
    }

    private static int indent(String line) {
        return line.length() - line.stripLeading().length();
    }

    private static void face(String code) {
        Set<String> open = new HashSet<>();
        for (Method m : ThornSchool.class.getDeclaredMethods()) {
            if (m.isSynthetic()) continue;
            CHECK.yes(m + " is public or private", Modifier.isPublic(m.getModifiers()) || Modifier.isPrivate(m.getModifiers()));
            if (Modifier.isPublic(m.getModifiers())) open.add(m.getName());
        }
        CHECK.same("public methods", open.size(), 54);
        for (Field f : ThornSchool.class.getDeclaredFields()) {
            CHECK.yes(f + " is private", Modifier.isPrivate(f.getModifiers()) || f.getName().equals("NONE"));
        }
        CHECK.yes("the class is final", Modifier.isFinal(ThornSchool.class.getModifiers()));
        for (Class<?> c : ThornSchool.class.getDeclaredClasses()) {
            CHECK.yes(c + " is static, private", Modifier.isStatic(c.getModifiers()) && Modifier.isPrivate(c.getModifiers()));
            for (Method m : c.getDeclaredMethods()) CHECK.yes(m + " has a name of its own", !open.contains(m.getName()));
            CHECK.yes(c + " has some twenty fields at most", variables(c) <= 20);
        }
        CHECK.yes("some twenty fields at most", variables(ThornSchool.class) <= 20);
        CHECK.yes("one public class", code.split("public final class").length == 2);
    }

    private static int variables(Class<?> c) {
        int many = 0;
        for (Field f : c.getDeclaredFields()) if (!Modifier.isStatic(f.getModifiers())) many++;
        return many;
    }
}
