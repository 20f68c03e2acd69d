import java.io.IOException;
import java.lang.reflect.Field;
import java.lang.reflect.Method;
import java.lang.reflect.Modifier;
import java.nio.file.Files;
import java.nio.file.Path;
import java.util.ArrayList;
import java.util.List;
import java.util.regex.Matcher;
import java.util.regex.Pattern;

/** Rules of LANGUAGE.md that can be seen in the text and the members of the class; run from the project's root. */
public final class LanguageTest {
    private static final String[] BANNED = {
        "\\bimport\\b", "\\bpackage\\b", "->", "::", "\\btry\\b", "\\bcatch\\b", "\\bfinally\\b", "\\bsynchronized\\b",
        "\\bassert\\b", "\\bprotected\\b", "static \\{", "\\+ \"", "\" \\+", "\\.equals\\(", "hashCode", "toString\\(\\) \\{",
        "\\bdouble\\b", "\\bfloat\\b", "\\bObject\\b", "Exact\\(", "\\bSystem\\.(?!arraycopy)", "\\bString\\.", "\\bvar\\b",
        "@", "\\bwhile\\b", "\\bthrow new (?!(IndexOutOfBounds|IllegalArgument|IllegalState)Exception\\(\"[a-z ]+\"\\);)",
    };
    private static final String SOURCE = "src/main/java/Ditchright.java";

    private static int wrong = 0;

    public static void main(String[] args) throws IOException {
        List<String> lines = withoutComments(Files.readAllLines(Path.of(SOURCE)));
        for (int k = 0; k < lines.size(); k++) {
            for (String banned : BANNED) {
                if (Pattern.compile(banned).matcher(lines.get(k)).find()) {
                    fail("line " + (k + 1) + ": " + banned);
                }
            }
            for (char sign : lines.get(k).toCharArray()) {
                if (sign > 126) {
                    fail("line " + (k + 1) + ": a sign beyond 126");
                }
            }
        }
        lengths(lines);
        members();
        if (wrong > 0) {
            System.exit(1);
        }
    }

    private static void fail(String text) {
        wrong++;
        System.out.println(text);
    }

    private static List<String> withoutComments(List<String> lines) {
        List<String> bare = new ArrayList<>();
        for (String line : lines) {
            String text = line.strip();
            bare.add(text.startsWith("*") || text.startsWith("/*") || text.startsWith("//") ? "" : line);
        }
        return bare;
    }

    private static void lengths(List<String> lines) {
        Pattern start = Pattern.compile("^( {4}| {8})(?!return|if|for|switch)(\\w[\\w\\[\\]]* )+\\w+\\([^;]*$");
        for (int k = 0; k < lines.size(); k++) {
            Matcher begin = start.matcher(lines.get(k));
            if (!begin.find()) {
                continue;
            }
            int end = k;
            while (end < lines.size() && !lines.get(end).equals(begin.group(1) + "}")) {
                end++;
            }
            if (end - k > 60) {
                fail("line " + (k + 1) + ": a method of " + (end - k + 1) + " lines");
            }
        }
    }

    private static void members() {
        List<Class<?>> all = new ArrayList<>(List.of(Ditchright.class.getDeclaredClasses()));
        all.add(Ditchright.class);
        if (all.size() > 12) {
            fail(all.size() + " classes");
        }
        for (Class<?> one : all) {
            int fields = 0;
            for (Field field : one.getDeclaredFields()) {
                if (!Modifier.isStatic(field.getModifiers())) {
                    fields++;
                } else if (!Modifier.isFinal(field.getModifiers())) {
                    fail("static field " + field);
                }
            }
            if (fields > 20) {
                fail(one + " has " + fields + " fields");
            }
            for (Method method : one.getDeclaredMethods()) {
                if (method.getParameterCount() > 7) {
                    fail("parameters of " + method);
                }
            }
        }
    }
}
