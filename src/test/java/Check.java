import java.io.IOException;
import java.lang.reflect.InvocationTargetException;
import java.lang.reflect.Method;
import java.nio.charset.StandardCharsets;
import java.nio.file.Files;
import java.nio.file.Path;
import java.util.Arrays;
import java.util.Comparator;
import java.util.Objects;

/** Counts the answers that are not due; a test ends with finish(). */
final class Check {

    static final int INVALID = -1;
    static final int NOT_POSSIBLE = -2;
    static final int LIMIT = -3;
    static final int NOT_FOUND = -4;

    private static int wrong = 0;
    private static int asked = 0;
    private static String test = "";

    private Check() {
    }

    /** Runs the tests of single sentences: the methods of the class that bear a Says. */
    static void runAll(Class<?> tests) {
        String document = theDocument();
        Method[] methods = tests.getDeclaredMethods();
        Arrays.sort(methods, Comparator.comparing(Method::getName));
        for (Method method : methods) {
            Says says = method.getAnnotation(Says.class);
            if (says != null) {
                test = method.getName() + ": ";
                if (!document.contains(says.value())) {
                    System.out.println(test + "the document does not say (any more): " + says.value());
                }
                runOne(method);
            }
        }
        test = "";
    }

    private static void runOne(Method method) {
        int before = asked;
        try {
            method.invoke(null);
        } catch (InvocationTargetException e) {
            tell("threw " + e.getCause());
        } catch (IllegalAccessException e) {
            tell("cannot be called");
        }
        if (asked == before) {
            tell("asks nothing");
        }
    }

    private static String theDocument() {
        try {
            return Files.readString(Path.of("../shared/DOC.md"), StandardCharsets.UTF_8);
        } catch (IOException e) {
            return "";
        }
    }

    static void due(String call, long got, long want) {
        asked++;
        if (got != want) {
            tell(call + " answered " + got + ", due is " + want);
        }
    }

    static void dueDouble(String call, double got, double want) {
        asked++;
        if (got != want) {
            tell(call + " answered " + got + ", due is " + want);
        }
    }

    static void dueText(String what, Object got, Object want) {
        asked++;
        if (!Objects.equals(got, want)) {
            tell(what + " is " + got + ", due is " + want);
        }
    }

    static void tell(String fault) {
        wrong++;
        if (wrong <= 40) {
            System.out.println(test + fault);
        }
    }

    /** Fills the pad with the text. */
    static void write(DotToner toner, String text) {
        toner.clear();
        for (int i = 0; i < text.length(); i++) {
            due("append of '" + text.charAt(i) + "' in " + text, toner.append(text.charAt(i)), i + 1);
        }
    }

    static int runText(DotToner toner, String text) {
        write(toner, text);
        return toner.run();
    }

    static void finish() {
        System.out.println(wrong == 0 ? asked + " answers are as due" : wrong + " of " + asked + " are not as due");
        if (wrong != 0) {
            System.exit(1);
        }
    }
}
