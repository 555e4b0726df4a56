import java.io.File;
import java.io.IOException;
import java.lang.reflect.Field;
import java.lang.reflect.Method;
import java.lang.reflect.Modifier;
import java.nio.charset.StandardCharsets;
import java.nio.file.Files;
import java.nio.file.Path;

/** README.md: its example stands here too, and answers as it says; run from the project's folder. */
public final class ReadmeTest {

    private static final String BEGIN = "        // the example of README.md begins\n";
    private static final String END = "        // the example of README.md ends\n";

    public static void main(String[] args) throws IOException {
        String readme = Files.readString(Path.of("README.md"), StandardCharsets.UTF_8);
        String self = Files.readString(Path.of("src/test/java/ReadmeTest.java"), StandardCharsets.UTF_8);
        Check.dueText("the example", between(readme, "```java\n", "```\n"), between(self, BEGIN, END).indent(-8));
        example();
        namesTheFace(readme);
        namesTheTests(readme);
        Check.finish();
    }

    private static String between(String text, String begin, String end) {
        int from = text.lastIndexOf(begin);
        int to = from < 0 ? -1 : text.indexOf(end, from + begin.length());
        return to < 0 ? "" : text.substring(from + begin.length(), to);
    }

    private static void example() {
        // the example of README.md begins
        DotToner toner = new DotToner();

        int page = toner.print(0, 120);                     // 110: 10 and a darkness of 100, a dark page
        int left = toner.cup(0, 1);                         // 1584: at hand; 240 are used, 176 have settled
        int plain = toner.lasts(0, 120, false);             // 5 pages more
        int shaken = toner.lasts(0, 120, true);             // 15, if it is shaken whenever that helps

        int wrong = toner.print(2, 120);                    // DotToner.INVALID_ARGUMENT: no such printer
        int before = toner.set(DotToner.DARK, 3);           // 2: the darkness before

        for (char sign : "s0;p0:90x4;m0>1;p0:5".toCharArray()) {
            toner.append(sign);
        }
        int fault = toner.fault();                          // DotToner.NOT_FOUND: the pad has none
        int pages = toner.run();                            // 4 pages; the pad is empty then
        int reason = toner.why(0);                          // 1: the job stopped, as printer 0 has no cup
        int place = toner.why(2);                           // 16: where the letter of that deed was

        int states = toner.undo();                          // 2: the job is undone; two states are left
        // the example of README.md ends
        Check.due("page", page, 110);
        Check.due("left", left, 1584);
        Check.due("plain", plain, 5);
        Check.due("shaken", shaken, 15);
        Check.due("wrong", wrong, DotToner.INVALID_ARGUMENT);
        Check.due("before", before, 2);
        Check.due("fault", fault, DotToner.NOT_FOUND);
        Check.due("pages", pages, 4);
        Check.due("reason", reason, 1);
        Check.due("place", place, 16);
        Check.due("states", states, 2);
    }

    private static void namesTheFace(String readme) {
        for (Method method : DotToner.class.getDeclaredMethods()) {
            if (Modifier.isPublic(method.getModifiers())) {
                Check.due("README.md names " + method.getName(), readme.contains("`" + method.getName() + "(") ? 1 : 0, 1);
            }
        }
        for (Field field : DotToner.class.getDeclaredFields()) {
            if (Modifier.isPublic(field.getModifiers())) {
                Check.due("README.md names " + field.getName(), readme.contains("`" + field.getName() + "`") ? 1 : 0, 1);
            }
        }
    }

    private static void namesTheTests(String readme) {
        File[] files = new File("src/test/java").listFiles();
        int tests = 0;
        for (File file : files == null ? new File[0] : files) {
            String name = file.getName().replace(".java", "");
            if (name.endsWith("Test")) {
                tests++;
                Check.due("README.md names " + name, readme.matches("(?s).*\\b" + name + "\\b.*") ? 1 : 0, 1);
            }
        }
        Check.due("there are tests", tests > 0 ? 1 : 0, 1);
    }
}
