import java.io.IOException;
import java.lang.reflect.Field;
import java.lang.reflect.Method;
import java.lang.reflect.Modifier;
import java.nio.charset.StandardCharsets;
import java.nio.file.Files;
import java.nio.file.Path;
import java.util.Set;
import java.util.TreeSet;
import java.util.regex.Matcher;
import java.util.regex.Pattern;

/**
 * What of ../shared/LANGUAGE.md can be seen in the text of the program and in its
 * classes; run from the project's folder.
 */
public final class LanguageTest {

    private static final String[] FORBIDDEN = {
        "^package ", "^import (?!java\\.util\\.(ArrayList|List|Arrays|Iterator|NoSuchElementException);)", "->", "::",
        "\\w+Exact\\(", "\\b(finally|synchronized|assert|volatile|transient|native|strictfp|throws|import static)\\b",
        "\\b(try|catch|instanceof|throw)\\b", "\\b(Thread|System\\.(?!arraycopy)|Random|Scanner|Object|Class)\\b",
        "\\.(equals|hashCode|toString|getMessage|format|valueOf)\\(", "\"\\s*\\+|\\+\\s*\"", "\\bvar\\b", "[^\\x00-\\x7f]"
    };

    public static void main(String[] args) throws IOException {
        String source = Files.readString(Path.of("src/main/java/DotToner.java"), StandardCharsets.UTF_8);
        String code = source.replaceAll("(?s)/\\*.*?\\*/", "").replaceAll("//[^\n]*", "");
        for (String rule : FORBIDDEN) {
            Matcher found = Pattern.compile(rule, Pattern.MULTILINE).matcher(code);
            Check.dueText("a match of " + rule, found.find() ? found.group() : "none", "none");
        }
        methodsAreShort(source);
        classes();
        Check.finish();
    }

    private static void methodsAreShort(String source) {
        String[] lines = source.split("\n");
        int start = -1;
        String end = "";
        for (int i = 0; i < lines.length; i++) {
            Matcher head = Pattern.compile("^( {4,8})[a-zA-Z].*\\) \\{$").matcher(lines[i]);
            if (start < 0 && head.find()) {
                start = i;
                end = head.group(1) + "}";
            } else if (start >= 0 && lines[i].equals(end)) {
                if (i - start > 60) {
                    Check.tell("a method of more than 60 lines at line " + (start + 1));
                }
                start = -1;
            }
        }
        Check.due("a method without an end at line", start, -1);
    }

    private static void classes() {
        Class<?>[] inside = DotToner.class.getDeclaredClasses();
        if (inside.length + 1 > 12) {
            Check.tell("more than 12 classes");
        }
        Set<String> face = new TreeSet<>();
        for (Method method : DotToner.class.getDeclaredMethods()) {
            if (Modifier.isPublic(method.getModifiers())) {
                face.add(method.getName());
            }
        }
        oneClass(DotToner.class);
        for (Class<?> one : inside) {
            oneClass(one);
            if (!Modifier.isStatic(one.getModifiers()) || Modifier.isPublic(one.getModifiers())) {
                Check.tell(one.getName() + " is not static, or public");
            }
            for (Method method : one.getDeclaredMethods()) {
                Check.due(one.getName() + " has a method of the face, " + method.getName(),
                        face.contains(method.getName()) ? 1 : 0, 0);
            }
        }
    }

    private static void oneClass(Class<?> one) {
        int fields = 0;
        for (Field field : one.getDeclaredFields()) {
            boolean isStatic = Modifier.isStatic(field.getModifiers());
            fields += isStatic ? 0 : 1;
            Check.due(one.getName() + " has a static field that is not final, " + field.getName(),
                    isStatic && !Modifier.isFinal(field.getModifiers()) ? 1 : 0, 0);
        }
        if (fields > 20) {
            Check.tell(one.getName() + " has more than 20 fields");
        }
        for (Method method : one.getDeclaredMethods()) {
            if (method.getParameterCount() > 7) {
                Check.tell(method.getName() + " has more than 7 parameters");
            }
        }
    }
}
