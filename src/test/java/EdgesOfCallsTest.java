import java.util.function.IntUnaryOperator;

/** The ranges of arguments that the promises 1 to 25 name, and the least and the most that they answer. */
public final class EdgesOfCallsTest {

    public static void main(String[] args) {
        Check.runAll(EdgesOfCallsTest.class);
        Check.finish();
    }

    private static void due(String call, long got, long want) {
        Check.due(call, got, want);
    }

    /** Numbers of the range are arguments, numbers outside, near and far, are not. */
    private static void range(int lowest, int highest, IntUnaryOperator call) {
        int[] inside = {lowest, highest};
        int[] outside = {lowest - 1, highest + 1, -lowest - 1, lowest - 256, highest + 256, lowest - 65536,
            highest + 65536, Integer.MIN_VALUE, Integer.MIN_VALUE + lowest, Integer.MAX_VALUE};
        for (int number : inside) {
            int answer = call.applyAsInt(number);
            if (answer == Check.INVALID) {
                due("in the range: " + number, answer, 0);
            }
        }
        for (int number : outside) {
            due("outside the range: " + number, call.applyAsInt(number), Check.INVALID);
        }
    }

    // ---- the face

    @Says("INVALID_ARGUMENT = -1")
    static void theErrors() {
        due("INVALID_ARGUMENT", DotToner.INVALID_ARGUMENT, -1);
        due("NOT_POSSIBLE", DotToner.NOT_POSSIBLE, -2);
        due("LIMIT_REACHED", DotToner.LIMIT_REACHED, -3);
        due("NOT_FOUND", DotToner.NOT_FOUND, -4);
    }

    @Says("`DARK = 0, SETTLE = 1, STRICT = 2, SCALE = 3`: Numbers of the settings.")
    static void theSettings() {
        due("DARK", DotToner.DARK, 0);
        due("SETTLE", DotToner.SETTLE, 1);
        due("STRICT", DotToner.STRICT, 2);
        due("SCALE", DotToner.SCALE, 3);
    }

    @Says("`DotToner()`: Creates two printers and four cups.")
    static void aNewObject() {
        int[] counts = {16000, 0, 0, 0, 0, 2, 16000, 0, 2, 10, 0, 50, 0, 0};
        DotToner x = new DotToner();
        for (int what = 0; what < counts.length; what++) {
            due("count " + what, x.count(what), counts[what]);
        }
        for (int printer = 0; printer < 2; printer++) {
            due("its cup", x.printer(printer, 0), printer);
            for (int what = 1; what < 5; what++) {
                due("printer's number " + what, x.printer(printer, what), 0);
            }
            due("latest page", x.printer(printer, 5), Check.NOT_FOUND);
            due("why not", x.whyNot(printer), 0);
        }
    }

    // ---- promise 2: print

    @Says("`int print(int printer, int dots)`: Prints a page.")
    static void printersOfPrint() {
        DotToner x = new DotToner();
        range(0, 1, printer -> x.print(printer, 1));
    }

    @Says("`dots`: 1 to 999, in hundreds")
    static void dotsOfPrint() {
        DotToner x = new DotToner();
        range(1, 999, dots -> x.print(0, dots));
    }

    @Says("Returns 10 and the darkness in hundredths (110 for a dark page); the reason, 1 to 3, if it is refused; INVALID_ARGUMENT.")
    static void theAnswersOfPrint() {
        due("dark", new DotToner().print(0, 999), 110);
        due("as light as can be", States.atHand(1).print(0, 101), 10);
        due("1 in a hundred", States.atHand(1).print(0, 100), 11);
        due("hardly not dark", States.atHand(99).print(0, 100), 109);
        DotToner x = States.onChip(0);
        x.print(0, 125);
        due("no toner", x.print(0, 1), 3);
        x.set(DotToner.STRICT, 1);
        due("no chip", x.print(0, 1), 2);
        x.takeOut(0);
        due("no cup", x.print(0, 1), 1);
        due("all three are counted", x.printer(0, 3), 3);
    }

    // ---- promise 3: shake

    @Says("`int shake(int cup)`: Shakes a cup.")
    static void cupsOfShake() {
        DotToner x = new DotToner();
        range(0, 3, x::shake);
    }

    @Says("Returns how much comes to hand; INVALID_ARGUMENT.")
    static void theAnswersOfShake() {
        DotToner x = new DotToner();
        x.refill(3, 2000);
        due("4000 settled", x.shake(3), 2000);
        int[] ups = {1000, 500, 250, 125, 62, 31, 16, 8, 4, 2, 1, 0, 0};
        for (int up : ups) {
            due("half", x.shake(3), up);
        }
    }

    // ---- promise 4: move

    @Says("`int move(int cup, int printer)`: Moves a cup into a printer.")
    static void cupsOfMove() {
        DotToner x = new DotToner();
        range(0, 3, cup -> x.move(cup, 1));
    }

    @Says("`int move(int cup, int printer)`: Moves a cup into a printer.")
    static void printersOfMove() {
        DotToner x = new DotToner();
        range(0, 1, printer -> x.move(2, printer));
    }

    @Says("Returns how much is spilt by that, by both cups together; INVALID_ARGUMENT.")
    static void theAnswersOfMove() {
        DotToner x = new DotToner();
        due("one spills", x.move(3, 1), 40);
        due("both spill", x.move(0, 1), 80);
        due("where it is", x.move(0, 1), 0);
        due("none spills", x.move(2, 0), 0);
        due("in all", x.count(2), 120);
        DotToner y = States.atHand(49);
        due("too little at hand", y.move(2, 0), 0);
        due("the cup is out", y.cup(0, 4), Check.NOT_FOUND);
    }

    // ---- promise 5: takeOut

    @Says("`int takeOut(int printer)`: Takes the cup of a printer out.")
    static void printersOfTakeOut() {
        DotToner x = new DotToner();
        range(0, 1, x::takeOut);
    }

    @Says("Returns the cup; INVALID_ARGUMENT; NOT_POSSIBLE if it has none.")
    static void theAnswersOfTakeOut() {
        DotToner x = new DotToner();
        due("cup 0", x.takeOut(0), 0);
        due("none", x.takeOut(0), Check.NOT_POSSIBLE);
        x.move(3, 0);
        due("cup 3", x.takeOut(0), 3);
        due("none again", x.takeOut(0), Check.NOT_POSSIBLE);
        x.move(1, 0);
        due("the one it had is gone", x.takeOut(1), Check.NOT_POSSIBLE);
    }

    // ---- promise 6: refill

    @Says("`int refill(int cup, int toner)`: Refills a cup.")
    static void cupsOfRefill() {
        DotToner x = new DotToner();
        x.takeOut(0);
        range(0, 3, cup -> x.refill(cup, 1));
    }

    @Says("`toner`: 1 to 6000")
    static void tonerOfRefill() {
        DotToner x = new DotToner();
        range(1, 6000, toner -> x.refill(2, toner));
    }

    @Says("NOT_POSSIBLE if the cup is in a printer;")
    static void noRefillInsideAPrinter() {
        DotToner x = new DotToner();
        due("in printer 0", x.refill(0, 1), Check.NOT_POSSIBLE);
        due("in printer 1", x.refill(1, 1), Check.NOT_POSSIBLE);
        x.takeOut(0);
        due("taken out", x.refill(0, 1), 1);
        x.move(3, 1);
        due("pushed out", x.refill(1, 1), 1);
        due("moved in", x.refill(3, 1), Check.NOT_POSSIBLE);
    }

    @Says("LIMIT_REACHED if it has 6000 already.")
    static void noRefillOfAFullCup() {
        DotToner x = new DotToner();
        due("up to 5999", x.refill(3, 1999), 1999);
        due("up to 6000", x.refill(3, 6000), 1);
        due("full", x.refill(3, 1), Check.LIMIT);
        due("full", x.refill(3, 6000), Check.LIMIT);
        x.shake(3);
        due("full, more at hand", x.refill(3, 1), Check.LIMIT);
        due("refilled", x.count(3), 2000);
    }

    // ---- promise 7: set

    @Says("`what`: 0 to 3")
    static void settingsOfSet() {
        DotToner x = new DotToner();
        due("DARK", x.set(0, 1), 2);
        due("SETTLE", x.set(1, 2), 10);
        due("STRICT", x.set(2, 1), 0);
        due("SCALE", x.set(3, 1), 50);
        for (int what : new int[] {-1, 4, 5, 11, 256, 65536, Integer.MIN_VALUE, Integer.MAX_VALUE}) {
            due("setting " + what, x.set(what, 1), Check.INVALID);
            due("setting " + what, x.set(what, 2), Check.INVALID);
        }
    }

    @Says("`value`: a value in its range")
    static void aValueInTheRangeOfAnotherSetting() {
        DotToner x = new DotToner();
        due("DARK 10", x.set(DotToner.DARK, 10), Check.INVALID);
        due("SETTLE 1", x.set(DotToner.SETTLE, 1), Check.INVALID);
        due("SETTLE 500", x.set(DotToner.SETTLE, 500), Check.INVALID);
        due("STRICT 2", x.set(DotToner.STRICT, 2), Check.INVALID);
        due("SCALE 0", x.set(DotToner.SCALE, 0), Check.INVALID);
        due("states", x.count(13), 0);
    }

    @Says("Returns the value before; INVALID_ARGUMENT.")
    static void theAnswersOfSet() {
        DotToner x = new DotToner();
        due("first value", x.set(DotToner.SCALE, 500), 50);
        due("most", x.set(DotToner.SCALE, 1), 500);
        due("least", x.set(DotToner.SCALE, 1), 1);
        x.set(DotToner.STRICT, 1);
        x.undo();
        due("undone", x.set(DotToner.STRICT, 0), 0);
    }

    // ---- promises 13 to 17: looks

    @Says("`int cup(int cup, int what)`: Returns a property of a cup.")
    static void cupsOfCup() {
        DotToner x = new DotToner();
        for (int what = 0; what < 8; what++) {
            int number = what;
            range(0, 3, cup -> x.cup(cup, number));
        }
    }

    @Says("`int cup(int cup, int what)`: Returns a property of a cup.")
    static void numbersOfCup() {
        DotToner x = new DotToner();
        range(0, 7, what -> x.cup(0, what));
    }

    @Says("4: the printer in which it is, NOT_FOUND if it is in none;")
    static void aCupInOneAnotherAndNoPrinter() {
        DotToner x = new DotToner();
        due("0", x.cup(0, 4), 0);
        due("1", x.cup(1, 4), 1);
        due("2", x.cup(2, 4), Check.NOT_FOUND);
        x.move(2, 1);
        due("2", x.cup(2, 4), 1);
        due("1", x.cup(1, 4), Check.NOT_FOUND);
        x.takeOut(0);
        due("0", x.cup(0, 4), Check.NOT_FOUND);
        x.move(2, 0);
        due("2", x.cup(2, 4), 0);
    }

    @Says("`int printer(int printer, int what)`: Returns a number of a printer.")
    static void printersOfPrinter() {
        DotToner x = new DotToner();
        for (int what = 0; what < 6; what++) {
            int number = what;
            range(0, 1, printer -> x.printer(printer, number));
        }
    }

    @Says("`int printer(int printer, int what)`: Returns a number of a printer.")
    static void numbersOfPrinter() {
        DotToner x = new DotToner();
        range(0, 5, what -> x.printer(1, what));
    }

    @Says("0: its cup, NOT_FOUND without one;")
    static void aPrinterWithoutACup() {
        DotToner x = new DotToner();
        x.move(0, 1);
        due("left", x.printer(0, 0), Check.NOT_FOUND);
        due("cup 0", x.printer(1, 0), 0);
        x.takeOut(1);
        due("taken out", x.printer(1, 0), Check.NOT_FOUND);
    }

    @Says("4: dots of all pages that were printed;")
    static void dotsOfDarkLightAndRefusedPages() {
        DotToner x = new DotToner();
        x.set(DotToner.DARK, 5);
        x.print(0, 100);
        due("dark", x.printer(0, 4), 100);
        x.print(0, 999);
        due("light, all its dots", x.printer(0, 4), 1099);
        x.print(0, 999);
        due("refused, none", x.printer(0, 4), 1099);
        due("refused", x.printer(0, 3), 1);
        due("the other one", x.printer(1, 4), 0);
    }

    @Says("5: the darkness of its latest page in hundredths, NOT_FOUND without one")
    static void theLatestPageOfEachPrinter() {
        DotToner x = new DotToner();
        due("none", x.printer(0, 5), Check.NOT_FOUND);
        x.set(DotToner.DARK, 5);
        x.print(0, 500);
        due("light", x.printer(0, 5), 80);
        due("none of the other one", x.printer(1, 5), Check.NOT_FOUND);
        x.shake(0);
        x.print(0, 1);
        due("dark", x.printer(0, 5), 100);
        x.print(1, 500);
        due("dark, thrifty", x.printer(1, 5), 100);
        x.move(1, 0);
        due("another cup, the same page", x.printer(0, 5), 100);
    }

    @Says("5: the darkness of its latest page in hundredths, NOT_FOUND without one")
    static void aPrinterOfWhichEveryPageWasRefused() {
        DotToner x = new DotToner();
        x.takeOut(0);
        x.print(0, 1);
        due("none", x.printer(0, 5), Check.NOT_FOUND);
    }

    @Says("`int needs(int cup, int dots, int what)`: Tells what a page needs of a cup at the darkness of now.")
    static void cupsOfNeeds() {
        DotToner x = new DotToner();
        range(0, 3, cup -> x.needs(cup, 1, 0));
        range(0, 3, cup -> x.needs(cup, 1, 1));
    }

    @Says("`int needs(int cup, int dots, int what)`: Tells what a page needs of a cup at the darkness of now.")
    static void dotsOfNeeds() {
        DotToner x = new DotToner();
        range(1, 999, dots -> x.needs(0, dots, 0));
        range(1, 999, dots -> x.needs(2, dots, 1));
    }

    @Says("`what`: 0: toner; 1: what its chip counts")
    static void numbersOfNeeds() {
        DotToner x = new DotToner();
        range(0, 1, what -> x.needs(3, 1, what));
    }

    @Says("`int whyNot(int printer)`: Tells why a page would be refused.")
    static void printersOfWhyNot() {
        DotToner x = new DotToner();
        range(0, 1, x::whyNot);
    }

    @Says("Returns the reason, 1 to 3; 0 if it would be printed; INVALID_ARGUMENT.")
    static void theAnswersOfWhyNot() {
        DotToner x = States.onChip(1);
        x.set(DotToner.STRICT, 1);
        due("one on the chip", x.whyNot(0), 0);
        x.print(0, 124);
        due("chip, one at hand", x.whyNot(0), 2);
        x.set(DotToner.STRICT, 0);
        due("one at hand", x.whyNot(0), 0);
        x.print(0, 1);
        due("toner", x.whyNot(0), 3);
        x.set(DotToner.STRICT, 1);
        due("chip before toner", x.whyNot(0), 2);
        x.takeOut(0);
        due("cup before both", x.whyNot(0), 1);
        due("not counted", x.printer(0, 3), 0);
        due("states", x.count(13), 4);
    }

    @Says("`int count(int what)`: Returns a number.")
    static void numbersOfCount() {
        DotToner x = new DotToner();
        range(0, 13, x::count);
    }

    @Says("4: pages printed so far, by both printers;")
    static void pagesOfBothPrintersWithoutRefusedOnes() {
        DotToner x = new DotToner();
        x.set(DotToner.DARK, 5);
        x.print(0, 999);
        x.print(0, 999);
        x.print(1, 1);
        due("light, refused, dark", x.count(4), 2);
        x.print(1, 999);
        due("and a light one of the other printer", x.count(4), 3);
    }

    @Says("8 to 11: the settings 0 to 3;")
    static void theSettingsAreCounted() {
        DotToner x = new DotToner();
        int[] values = {5, 49, 1, 499};
        for (int what = 0; what < 4; what++) {
            x.set(what, values[what]);
        }
        for (int what = 0; what < 4; what++) {
            due("setting " + what, x.count(8 + what), values[what]);
        }
    }

    @Says("5: cups in printers;")
    static void cupsInPrinters() {
        DotToner x = new DotToner();
        due("both", x.count(5), 2);
        x.move(0, 1);
        due("one", x.count(5), 1);
        x.takeOut(1);
        due("none", x.count(5), 0);
        x.move(3, 0);
        due("one", x.count(5), 1);
    }

    @Says("1: toner used by pages so far;")
    static void tonerUsedByALightPage() {
        DotToner x = new DotToner();
        x.set(DotToner.DARK, 5);
        x.print(0, 999);
        due("all that was at hand", x.count(1), 2000);
        x.print(0, 999);
        due("refused", x.count(1), 2000);
        x.print(1, 10);
        due("and 37", x.count(1), 2037);
    }

    @Says("2: spilt so far; 3: refilled so far;")
    static void spiltAndRefilledSoFar() {
        DotToner x = new DotToner();
        x.takeOut(0);
        x.refill(0, 6000);
        due("spilt", x.count(2), 40);
        due("refilled: what came", x.count(3), 2040);
        x.refill(0, 1);
        due("full: nothing more", x.count(3), 2040);
        due("in all", x.count(0), 18000);
    }

    @Says("12: the length of the pad; 13: states in the history")
    static void thePadAndTheHistoryAreCounted() {
        DotToner x = new DotToner();
        Check.write(x, "s".repeat(60));
        due("length", x.count(12), 60);
        due("states", x.count(13), 0);
        for (int i = 0; i < 5; i++) {
            x.shake(0);
        }
        due("states", x.count(13), 4);
        x.undo();
        due("states", x.count(13), 3);
    }

    // ---- promises 19 to 22: what would be

    @Says("`int lasts(int cup, int dots, boolean shaking)`: Tells how many pages a cup lasts.")
    static void cupsOfLasts() {
        DotToner x = new DotToner();
        range(0, 3, cup -> x.lasts(cup, 999, false));
        range(0, 3, cup -> x.lasts(cup, 999, true));
    }

    @Says("`int lasts(int cup, int dots, boolean shaking)`: Tells how many pages a cup lasts.")
    static void dotsOfLasts() {
        DotToner x = new DotToner();
        range(1, 999, dots -> x.lasts(0, dots, false));
        range(1, 999, dots -> x.lasts(0, dots, true));
    }

    @Says("`int atHand(int cup, int dots, int pages, int way)`")
    static void cupsOfAtHand() {
        DotToner x = new DotToner();
        range(0, 3, cup -> x.atHand(cup, 1, 1, 0));
        range(0, 3, cup -> x.atHand(cup, 1, 1, 1));
    }

    @Says("`int atHand(int cup, int dots, int pages, int way)`")
    static void dotsOfAtHand() {
        DotToner x = new DotToner();
        range(1, 999, dots -> x.atHand(0, dots, 1, 0));
        range(1, 999, dots -> x.atHand(0, dots, 0, 1));
    }

    @Says("`pages`: 0 to 50")
    static void pagesOfAtHand() {
        DotToner x = new DotToner();
        range(0, 50, pages -> x.atHand(0, 1, pages, 0));
        range(0, 50, pages -> x.atHand(0, 1, pages, 1));
    }

    @Says("`way`: 0: told page by page;")
    static void waysOfAtHand() {
        DotToner x = new DotToner();
        range(0, 1, way -> x.atHand(0, 1, 1, way));
        range(0, 1, way -> x.atHand(0, 1, 0, way));
    }

    @Says("`int bestFor(int dots, int pages)`: Finds the best cup for a job of like pages.")
    static void dotsOfBestFor() {
        DotToner x = new DotToner();
        range(1, 999, dots -> x.bestFor(dots, 1));
    }

    @Says("`pages`: 1 to 50")
    static void pagesOfBestFor() {
        DotToner x = new DotToner();
        range(1, 50, pages -> x.bestFor(1, pages));
        due("50 pages", x.bestFor(1, 50), 0);
        due("0 pages", x.bestFor(1, 0), Check.INVALID);
    }

    @Says("`int darkest(int cup, int dots, int pages)`: Finds the greatest darkness with which a cup lasts.")
    static void cupsOfDarkest() {
        DotToner x = new DotToner();
        range(0, 3, cup -> x.darkest(cup, 1, 1));
    }

    @Says("`int darkest(int cup, int dots, int pages)`: Finds the greatest darkness with which a cup lasts.")
    static void dotsOfDarkest() {
        DotToner x = new DotToner();
        range(1, 999, dots -> x.darkest(0, dots, 1));
    }

    @Says("`pages`: 1 to 50")
    static void pagesOfDarkest() {
        DotToner x = new DotToner();
        range(1, 50, pages -> x.darkest(0, 1, pages));
        due("50 pages", x.darkest(0, 1, 50), 5);
        due("0 pages", x.darkest(0, 1, 0), Check.INVALID);
    }

    @Says("`pages`: 1 to 50")
    static void exactly50Pages() {
        DotToner x = States.inAll(51);
        due("50 pages", x.darkest(0, 1, 50), 1);
        due("lasts", x.lasts(0, 1, true), 50);
        due("best", x.bestFor(1, 50), 0);
        x.print(0, 1);
        due("no cup 0", x.bestFor(1, 50), 1);
        due("no darkness", x.darkest(0, 1, 50), Check.NOT_FOUND);
        due("49 pages", x.darkest(0, 1, 49), 1);
    }
}
