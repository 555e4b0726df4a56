/** Runs of many calls on a DotToner and on a PaperToner, answer by answer. */
public final class ComparisonTest {

    private static final int[] ODD = {Integer.MIN_VALUE, -1000, -5, -1, 0, 1, 2, 3, 4, 5, 6, 7, 8, 13, 14, 32, 33,
        49, 50, 51, 59, 60, 100, 126, 127, 500, 501, 998, 999, 1000, 5999, 6000, 6001, 65536, Integer.MAX_VALUE};

    // the document promises nothing about later calls
    private static final int MOST_CALLS = 512;
    private static final int LOOKS_AT_ALL = 65;
    // clear, 60 times append, run
    private static final int CALLS_OF_A_STEP = 62;

    private static long seed = 4711;

    private int calls = 0;

    private final DotToner toner = new DotToner();
    private final PaperToner paper = new PaperToner();
    private final String name;

    private ComparisonTest(String name) {
        this.name = name;
    }

    public static void main(String[] args) {
        for (int run = 0; run < 1600; run++) {
            new ComparisonTest("run " + run).go(run % 4);
        }
        Check.finish();
    }

    private void go(int manner) {
        while (calls <= MOST_CALLS - LOOKS_AT_ALL - CALLS_OF_A_STEP) {
            if (manner == 3 && any(6) == 0) {
                wildCall();
            } else if (any(2) == 0) {
                look();
            } else {
                act(manner);
            }
        }
        lookAtAll();
        if (calls > MOST_CALLS) {
            Check.tell(name + " has " + calls + " calls");
        }
    }

    private void act(int manner) {
        switch (any(16)) {
            case 0, 1, 2, 3, 4 -> {
                int printer = any(2);
                int dots = dots(manner);
                due("print", toner.print(printer, dots), paper.print(printer, dots));
            }
            case 5, 6 -> {
                int cup = any(4);
                due("shake", toner.shake(cup), paper.shake(cup));
            }
            case 7, 8 -> {
                int cup = any(4);
                int printer = any(2);
                due("move", toner.move(cup, printer), paper.move(cup, printer));
            }
            case 9 -> {
                int printer = any(2);
                due("takeOut", toner.takeOut(printer), paper.takeOut(printer));
            }
            case 10 -> {
                int cup = any(4);
                int amount = 1 + any(any(2) == 0 ? 6000 : 300);
                due("refill", toner.refill(cup, amount), paper.refill(cup, amount));
            }
            case 11 -> {
                int what = any(4);
                int value = new int[] {1 + any(5), 2 + any(49), any(2), 1 + any(500)}[what];
                due("set", toner.set(what, value), paper.set(what, value));
            }
            case 12, 13 -> job(manner);
            case 14 -> due("undo", toner.undo(), paper.undo());
            default -> {
                if (any(3) == 0) {
                    due("restore", toner.restore(), paper.restore());
                } else if (any(2) == 0) {
                    due("save", toner.save(), paper.save());
                }
            }
        }
    }

    private int dots(int manner) {
        return manner == 0 ? 1 + any(5) : manner == 1 ? 1 + any(120) : 1 + any(999);
    }

    private void job(int manner) {
        StringBuilder text = new StringBuilder();
        int deeds = 1 + any(4);
        for (int i = 0; i < deeds; i++) {
            text.append(i == 0 ? "" : ";");
            switch (any(4)) {
                case 0 -> text.append('s').append(any(4));
                case 1 -> text.append('m').append(any(4)).append('>').append(any(2));
                case 2 -> text.append('p').append(any(2)).append(':').append(dots(manner));
                default -> text.append('p').append(any(2)).append(':').append(dots(manner)).append('x').append(2 + any(49));
            }
        }
        if (any(8) == 0) {
            text.setCharAt(any(text.length()), "p0;x9".charAt(any(5)));
        }
        due("clear", toner.clear(), paper.clear());
        for (int i = 0; i < text.length(); i++) {
            due("append", toner.append(text.charAt(i)), paper.append(text.charAt(i)));
        }
        due("run of " + text, toner.run(), paper.run());
    }

    private void look() {
        int cup = any(4);
        int dots = dots(any(3));
        int pages = any(any(2) == 0 ? 6 : 51);
        boolean shaking = any(2) == 0;
        int way = any(2);
        switch (any(10)) {
            case 0 -> due("needs", toner.needs(cup, dots, way), paper.needs(cup, dots, way));
            case 1 -> due("lasts", toner.lasts(cup, dots, shaking), paper.lasts(cup, dots, shaking));
            case 2 -> due("atHand", toner.atHand(cup, dots, pages, way), paper.atHand(cup, dots, pages, way));
            case 3 -> due("bestFor", toner.bestFor(dots, pages), paper.bestFor(dots, pages));
            case 4 -> due("darkest", toner.darkest(cup, dots, pages), paper.darkest(cup, dots, pages));
            case 5 -> lookAtCup(cup, any(8));
            case 6 -> lookAtPrinter(any(2), any(6));
            case 7 -> lookAtCount(any(14));
            case 8 -> lookAtWhy(any(4));
            default -> lookAtDarkness();
        }
    }

    private void lookAtAll() {
        for (int what = 0; what < 8; what++) {
            for (int cup = 0; cup < 4; cup++) {
                lookAtCup(cup, what);
            }
        }
        for (int what = 0; what < 6; what++) {
            lookAtPrinter(0, what);
            lookAtPrinter(1, what);
        }
        for (int what = 0; what < 14; what++) {
            lookAtCount(what);
        }
        for (int what = 0; what < 4; what++) {
            lookAtWhy(what);
        }
        due("whyNot 0", toner.whyNot(0), paper.whyNot(0));
        due("whyNot 1", toner.whyNot(1), paper.whyNot(1));
        lookAtDarkness();
    }

    private void lookAtCup(int cup, int what) {
        due("cup " + cup + " " + what, toner.cup(cup, what), paper.cup(cup, what));
    }

    private void lookAtPrinter(int printer, int what) {
        due("printer " + printer + " " + what, toner.printer(printer, what), paper.printer(printer, what));
    }

    private void lookAtCount(int what) {
        due("count " + what, toner.count(what), paper.count(what));
    }

    private void lookAtWhy(int what) {
        due("why " + what, toner.why(what), paper.why(what));
    }

    private void lookAtDarkness() {
        calls++;
        Check.dueDouble(name + ": darkness", toner.darkness(), paper.darkness());
    }

    private void wildCall() {
        int a = odd();
        int b = odd();
        int c = odd();
        int d = odd();
        switch (any(18)) {
            case 0 -> due("print", toner.print(a, b), paper.print(a, b));
            case 1 -> due("shake", toner.shake(a), paper.shake(a));
            case 2 -> due("move", toner.move(a, b), paper.move(a, b));
            case 3 -> due("takeOut", toner.takeOut(a), paper.takeOut(a));
            case 4 -> due("refill", toner.refill(a, b), paper.refill(a, b));
            case 5 -> due("set", toner.set(a, b), paper.set(a, b));
            case 6 -> due("append", toner.append(a), paper.append(a));
            case 7 -> due("run", toner.run(), paper.run());
            case 8 -> due("needs", toner.needs(a, b, c), paper.needs(a, b, c));
            case 9 -> due("whyNot", toner.whyNot(a), paper.whyNot(a));
            case 10 -> due("lasts", toner.lasts(a, b, true), paper.lasts(a, b, true));
            case 11 -> due("atHand", toner.atHand(a, b, c, d), paper.atHand(a, b, c, d));
            case 12 -> due("bestFor", toner.bestFor(a, b), paper.bestFor(a, b));
            case 13 -> due("darkest", toner.darkest(a, b, c), paper.darkest(a, b, c));
            case 14 -> lookAtCup(a, b);
            case 15 -> lookAtPrinter(a, b);
            case 16 -> lookAtCount(a);
            default -> lookAtWhy(a);
        }
    }

    private static int odd() {
        return any(2) == 0 ? any(4) : ODD[any(ODD.length)];
    }

    private static int any(int below) {
        seed = seed * 6364136223846793005L + 1442695040888963407L;
        return (int) ((seed >>> 33) % below);
    }

    private void due(String call, int got, int want) {
        calls++;
        Check.due(name + ": " + call, got, want);
    }
}
