import java.util.Objects;

/** Counts the answers that are not due; a test ends with finish(). */
final class Check {

    private static int wrong = 0;
    private static int asked = 0;

    private Check() {
    }

    static void due(String call, long got, long want) {
        asked++;
        if (got != want) {
            tell(call + " answered " + got + ", due is " + want);
        }
    }

    static void dueDouble(String call, double got, double want) {
        asked++;
        if (got != want) {
            tell(call + " answered " + got + ", due is " + want);
        }
    }

    static void dueText(String what, Object got, Object want) {
        asked++;
        if (!Objects.equals(got, want)) {
            tell(what + " is " + got + ", due is " + want);
        }
    }

    static void tell(String fault) {
        wrong++;
        if (wrong <= 40) {
            System.out.println(fault);
        }
    }

    /** Fills the pad with the text. */
    static void write(DotToner toner, String text) {
        toner.clear();
        for (int i = 0; i < text.length(); i++) {
            due("append of '" + text.charAt(i) + "' in " + text, toner.append(text.charAt(i)), i + 1);
        }
    }

    static int runText(DotToner toner, String text) {
        write(toner, text);
        return toner.run();
    }

    static void finish() {
        System.out.println(wrong == 0 ? asked + " answers are as due" : wrong + " of " + asked + " are not as due");
        if (wrong != 0) {
            System.exit(1);
        }
    }
}
