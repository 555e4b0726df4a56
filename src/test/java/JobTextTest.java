import java.util.regex.Pattern;

/** Promise 10: the fault of many texts, told a second time by whole jobs that begin with them. */
public final class JobTextTest {

    private static final String DEED = "(p[01]:[1-9][0-9]{0,2}(x([2-9]|[1-4][0-9]|50))?|s[0-3]|m[0-3]>[01])";
    private static final Pattern JOB = Pattern.compile(DEED + "(;" + DEED + ")*");
    private static final String[] ENDS = {"", "0", "1", "2", ":1", "0:1", "p0:1", "s0", ">0", "0>0"};
    private static final String SIGNS = "ppssmm00011122334455699::>>;;xx!~/.PSMX";

    private static long seed = 20261119;

    public static void main(String[] args) {
        shortTexts("", 4);
        namedEdges();
        for (int i = 0; i < 20000; i++) {
            look(almostJob());
        }
        longTexts();
        Check.finish();
    }

    /** All texts of up to so many of the signs that matter. */
    private static void shortTexts(String text, int more) {
        look(text);
        if (more > 0) {
            for (char sign : "psm0134569:>;x!".toCharArray()) {
                shortTexts(text + sign, more - 1);
            }
        }
    }

    private static void namedEdges() {
        String[] starts = {"p0:1", "s0;p1:9", "m3>1;p0:99", "p0:999", "p0:1x", "p1:20x1", "p0:1x5", "p0:1x4", "p0:1x10"};
        for (String start : starts) {
            for (char sign = 33; sign <= 126; sign++) {
                look(start + sign);
                look(start + sign + "0");
                look(start + sign + "s3");
            }
        }
        for (int number = 0; number <= 1100; number++) {
            look("p0:" + number);
            look("p0:" + number + ";s1");
            look("p0:1x" + number);
            look("p0:1x" + number + ";s1");
            look("p0:0" + number);
            look("p0:1x0" + number);
            look("p" + number + ":1");
            look("s" + number);
            look("m" + number + ">0");
            look("m0>" + number);
        }
    }

    private static void longTexts() {
        String deeds = "s0;".repeat(20);
        look(deeds);
        look(deeds.substring(0, 59));
        look(deeds.substring(0, 58));
        look(deeds.substring(3) + "p0:");
        look(deeds.substring(3) + "p0;");
        look(deeds.substring(6) + "m0>1;s");
        look("p0:999x50;".repeat(6));
        look("p0:999x50;".repeat(5) + "p0:9990x50");
        look("9".repeat(60));
        look("p0:" + "9".repeat(57));
    }

    private static String almostJob() {
        StringBuilder text = new StringBuilder();
        int deeds = 1 + any(5);
        for (int i = 0; i < deeds; i++) {
            text.append(i == 0 ? "" : ";").append(deed());
        }
        int changes = any(3);
        for (int i = 0; i < changes && text.length() > 0; i++) {
            int place = any(text.length());
            char sign = SIGNS.charAt(any(SIGNS.length()));
            switch (any(3)) {
                case 0 -> text.setCharAt(place, sign);
                case 1 -> text.insert(place, sign);
                default -> text.deleteCharAt(place);
            }
        }
        return text.length() > 60 ? text.substring(0, 60) : text.toString();
    }

    private static String deed() {
        return switch (any(4)) {
            case 0 -> "s" + any(4);
            case 1 -> "m" + any(4) + ">" + any(2);
            case 2 -> "p" + any(2) + ":" + (1 + any(999));
            default -> "p" + any(2) + ":" + (1 + any(999)) + "x" + (1 + any(52));
        };
    }

    private static int any(int below) {
        seed = seed * 6364136223846793005L + 1442695040888963407L;
        return (int) ((seed >>> 33) % below);
    }

    private static void look(String text) {
        DotToner toner = new DotToner();
        Check.write(toner, text);
        Check.due("fault() of " + text, toner.fault(), faultOf(text));
    }

    private static int faultOf(String text) {
        for (int i = 0; i < text.length(); i++) {
            if (!beginsJob(text.substring(0, i + 1))) {
                return i;
            }
        }
        return JOB.matcher(text).matches() ? DotToner.NOT_FOUND : text.length();
    }

    private static boolean beginsJob(String start) {
        for (String end : ENDS) {
            if (JOB.matcher(start + end).matches()) {
                return true;
            }
        }
        return false;
    }
}
