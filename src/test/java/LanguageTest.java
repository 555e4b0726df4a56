import java.io.IOException;
import java.nio.charset.StandardCharsets;
import java.nio.file.Files;
import java.nio.file.Path;
import java.util.regex.Matcher;
import java.util.regex.Pattern;

/** What of ../shared/LANGUAGE.md can be seen in the text of the program; run from the project's folder. */
public final class LanguageTest {

    private static final String[] FORBIDDEN = {
        "^package ", "^import (?!java\\.util\\.(ArrayList|List|Arrays|Iterator|NoSuchElementException);)", "->", "::",
        "\\w+Exact\\(", "\\b(finally|synchronized|assert|volatile|transient|native|strictfp|throws|import static)\\b",
        "\\b(try|catch|instanceof|throw)\\b", "\\b(Thread|System\\.(?!arraycopy)|Random|Scanner|Object|Class)\\b",
        "\\.(equals|hashCode|toString|getMessage|format|valueOf)\\(", "\"\\s*\\+|\\+\\s*\"", "\\bvar\\b", "[^\\x00-\\x7f]"
    };

    public static void main(String[] args) throws IOException {
        String source = Files.readString(Path.of("src/main/java/DotToner.java"), StandardCharsets.UTF_8);
        String code = source.replaceAll("(?s)/\\*.*?\\*/", "").replaceAll("//[^\n]*", "");
        for (String rule : FORBIDDEN) {
            Matcher found = Pattern.compile(rule, Pattern.MULTILINE).matcher(code);
            Check.dueText("a match of " + rule, found.find() ? found.group() : "none", "none");
        }
        methodsAreShort(source);
        Check.finish();
    }

    private static void methodsAreShort(String source) {
        String[] lines = source.split("\n");
        int start = -1;
        String end = "";
        for (int i = 0; i < lines.length; i++) {
            Matcher head = Pattern.compile("^( {4,8})[a-zA-Z].*\\) \\{$").matcher(lines[i]);
            if (start < 0 && head.find()) {
                start = i;
                end = head.group(1) + "}";
            } else if (start >= 0 && lines[i].equals(end)) {
                if (i - start > 60) {
                    Check.tell("a method of more than 60 lines at line " + (start + 1));
                }
                start = -1;
            }
        }
        Check.due("a method without an end at line", start, -1);
    }
}
