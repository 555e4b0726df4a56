/** Edges that the document names under "Cups" and "Printers", each by a test of its own. */
public final class EdgesOfCupsTest {

    public static void main(String[] args) {
        Check.runAll(EdgesOfCupsTest.class);
        Check.finish();
    }

    private static void due(String call, long got, long want) {
        Check.due(call, got, want);
    }

    private static DotToner with(int what, int value) {
        DotToner x = new DotToner();
        x.set(what, value);
        return x;
    }

    // ---- cups

    @Says("There are 4 cups, numbered from 0.")
    static void theFirstCupIs0() {
        DotToner x = new DotToner();
        due("cup 0", x.cup(0, 3), 4000);
        due("cup -1", x.cup(-1, 3), Check.INVALID);
    }

    @Says("There are 4 cups, numbered from 0.")
    static void theLastCupIs3() {
        DotToner x = new DotToner();
        due("cup 3", x.cup(3, 3), 4000);
        due("cup 4", x.cup(4, 3), Check.INVALID);
    }

    @Says("A cup has a kind, 0 to 2, toner at hand, settled toner, and a chip, 0 to 20000.")
    static void aKindIsNotMoreThan2() {
        DotToner x = new DotToner();
        x.refill(2, 10);
        x.refill(2, 10);
        due("refilled again and again", x.cup(2, 0), 2);
    }

    @Says("A cup has a kind, 0 to 2, toner at hand, settled toner, and a chip, 0 to 20000.")
    static void aChipIsNotLessThan0() {
        DotToner x = States.onChip(1);
        x.print(0, 100);
        due("chip", x.cup(0, 3), 0);
    }

    @Says("At first the kinds are 0, 1, 2 and 0, and each cup has 2000 at hand, 2000 settled, and 4000 on its chip.")
    static void cupsAtFirst() {
        DotToner x = new DotToner();
        int[] kinds = {0, 1, 2, 0};
        for (int cup = 0; cup < 4; cup++) {
            due("kind", x.cup(cup, 0), kinds[cup]);
            due("at hand", x.cup(cup, 1), 2000);
            due("settled", x.cup(cup, 2), 2000);
            due("chip", x.cup(cup, 3), 4000);
        }
    }

    @Says("of a plain one d * k; of a thrifty one d * k * 3 / 4; of a refilled one d * k * 9 / 8.")
    static void leastThatIsNeeded() {
        DotToner x = with(DotToner.DARK, 1);
        due("plain", x.needs(0, 1, 0), 1);
        due("thrifty", x.needs(1, 1, 0), 0);
        due("refilled", x.needs(2, 1, 0), 1);
    }

    @Says("of a plain one d * k; of a thrifty one d * k * 3 / 4; of a refilled one d * k * 9 / 8.")
    static void mostThatIsNeeded() {
        DotToner x = with(DotToner.DARK, 5);
        due("plain", x.needs(0, 999, 0), 4995);
        due("thrifty", x.needs(1, 999, 0), 3746);
        due("refilled", x.needs(2, 999, 0), 5619);
    }

    @Says("Divisions are rounded down.")
    static void theThriftyNeedIsRoundedDownAtLast() {
        int[] dues = {0, 1, 2, 3, 3, 4, 5, 6};
        DotToner x = with(DotToner.DARK, 1);
        for (int dots = 1; dots <= dues.length; dots++) {
            due(dots + " dots", x.needs(1, dots, 0), dues[dots - 1]);
        }
        x.set(DotToner.DARK, 3);
        due("1 dot at 3: 9 / 4", x.needs(1, 1, 0), 2);
    }

    @Says("Divisions are rounded down.")
    static void theRefilledNeedIsRoundedDownAtLast() {
        DotToner x = with(DotToner.DARK, 1);
        due("63 / 8", x.needs(2, 7, 0), 7);
        due("72 / 8", x.needs(2, 8, 0), 9);
        due("135 / 8", x.needs(2, 15, 0), 16);
        x.set(DotToner.DARK, 2);
        due("7 dots at 2: 126 / 8", x.needs(2, 7, 0), 15);
    }

    @Says("What the chip of a cup counts for it: of a plain one and a thrifty one what the page needs; of a refilled one d * k, as of a plain one.")
    static void theChipOfAThriftyCupCountsNothingForNothing() {
        DotToner x = with(DotToner.DARK, 1);
        due("told", x.needs(1, 1, 1), 0);
        x.print(1, 1);
        due("counted", x.cup(1, 3), 4000);
    }

    @Says("What the chip of a cup counts for it: of a plain one and a thrifty one what the page needs; of a refilled one d * k, as of a plain one.")
    static void theChipOfARefilledCupCountsLess() {
        DotToner x = with(DotToner.DARK, 1);
        due("7 dots: the same", x.needs(2, 7, 1), 7);
        due("8 dots: not 9", x.needs(2, 8, 1), 8);
        x.set(DotToner.DARK, 5);
        due("most", x.needs(2, 999, 1), 4995);
        due("most of a thrifty one", x.needs(1, 999, 1), 3746);
        x.set(DotToner.DARK, 1);
        x.takeOut(0);
        x.refill(0, 1);
        due("refilled now", x.needs(0, 8, 1), 8);
        x.move(0, 0);
        x.print(0, 8);
        due("counted", x.cup(0, 3), 3992);
        due("used", x.count(1), 9);
    }

    // ---- printers and why a page is refused

    @Says("There are two printers, 0 and 1;")
    static void thereIsNoThirdPrinter() {
        DotToner x = new DotToner();
        due("printer 0", x.printer(0, 1), 0);
        due("printer 1", x.printer(1, 1), 0);
        due("printer 2", x.printer(2, 1), Check.INVALID);
        due("printer -1", x.printer(-1, 1), Check.INVALID);
    }

    @Says("each has a cup or none (at first the printer 0 has the cup 0, the printer 1 the cup 1);")
    static void printersAtFirst() {
        DotToner x = new DotToner();
        due("cup of 0", x.printer(0, 0), 0);
        due("cup of 1", x.printer(1, 0), 1);
        due("cup 2 is in none", x.cup(2, 4), Check.NOT_FOUND);
        due("cup 3 is in none", x.cup(3, 4), Check.NOT_FOUND);
    }

    @Says("each has a cup or none (at first the printer 0 has the cup 0, the printer 1 the cup 1);")
    static void bothPrintersMayBeWithoutACup() {
        DotToner x = new DotToner();
        x.takeOut(0);
        x.takeOut(1);
        due("cup of 0", x.printer(0, 0), Check.NOT_FOUND);
        due("cup of 1", x.printer(1, 0), Check.NOT_FOUND);
        due("cups in printers", x.count(5), 0);
    }

    @Says("a cup is in one printer at most.")
    static void aCupIsNotInTwoPrinters() {
        DotToner x = new DotToner();
        x.move(0, 1);
        due("left", x.printer(0, 0), Check.NOT_FOUND);
        due("entered", x.printer(1, 0), 0);
        due("where it is", x.cup(0, 4), 1);
        due("cups in printers", x.count(5), 1);
    }

    @Says("it is refused for the first of these reasons that is so: 1: it has no cup;")
    static void refusedWithoutACup() {
        DotToner x = with(DotToner.STRICT, 1);
        x.takeOut(1);
        due("print", x.print(1, 1), 1);
        due("the other one prints", x.print(0, 1), 110);
    }

    @Says("2: the chip of the cup is 0, and STRICT is 1;")
    static void refusedForAnEmptyChip() {
        DotToner x = States.onChip(0);
        x.set(DotToner.STRICT, 1);
        due("print", x.print(0, 1), 2);
    }

    @Says("2: the chip of the cup is 0, and STRICT is 1;")
    static void anEmptyChipIsNoReasonIfStrictIs0() {
        DotToner x = States.onChip(0);
        due("print", x.print(0, 1), 110);
    }

    @Says("2: the chip of the cup is 0, and STRICT is 1;")
    static void oneOnTheChipIsEnough() {
        DotToner x = States.onChip(1);
        x.set(DotToner.STRICT, 1);
        due("a page that counts more", x.print(0, 100), 110);
        due("the next one", x.print(0, 1), 2);
    }

    @Says("it is refused for the first of these reasons that is so: 1: it has no cup;")
    static void theChipComesBeforeTheToner() {
        DotToner x = States.onChip(0);
        x.print(0, 125);
        x.set(DotToner.STRICT, 1);
        due("both are so", x.print(0, 1), 2);
        x.set(DotToner.STRICT, 0);
        due("only the toner", x.print(0, 1), 3);
    }

    @Says("3: there is no toner at hand.")
    static void refusedWithoutTonerAtHand() {
        DotToner x = States.atHand(0);
        due("print", x.print(0, 1), 3);
        due("what has settled does not count", x.cup(0, 2), 2020);
        x.set(DotToner.STRICT, 1);
        due("strict, with a chip that counts still", x.print(0, 1), 3);
    }

    @Says("3: there is no toner at hand.")
    static void oneAtHandIsPrinted() {
        DotToner x = States.atHand(1);
        due("print", x.print(0, 999), 10);
        due("at hand", x.cup(0, 1), 0);
    }

    @Says("3: there is no toner at hand.")
    static void refusedWithoutTonerThoughNoneIsNeeded() {
        DotToner x = with(DotToner.DARK, 4);
        x.print(1, 667);
        x.set(DotToner.DARK, 1);
        due("at hand", x.cup(1, 1), 0);
        due("needed", x.needs(1, 1, 0), 0);
        due("print", x.print(1, 1), 3);
    }

    @Says("Otherwise, if there is as much at hand as the page needs, that is used, and the page is dark;")
    static void exactlyEnoughIsDark() {
        DotToner x = States.atHand(100);
        due("print", x.print(0, 100), 110);
        due("at hand", x.cup(0, 1), 0);
        due("dark", x.printer(0, 1), 3);
        due("light", x.printer(0, 2), 0);
    }

    @Says("if there is less, all that is at hand is used, and the page is light;")
    static void oneLessIsLight() {
        DotToner x = States.atHand(99);
        int before = x.count(1);
        due("print", x.print(0, 100), 109);
        due("at hand", x.cup(0, 1), 0);
        due("used", x.count(1) - before, 99);
        due("dark", x.printer(0, 1), 2);
        due("light", x.printer(0, 2), 1);
    }

    @Says("its darkness in hundredths is what is used times 100, divided by what it needs (100 for a dark one).")
    static void hundredthsAreRoundedDown() {
        DotToner x = States.atHand(1);
        x.set(DotToner.DARK, 3);
        due("1 of 3", x.print(0, 1), 43);
        DotToner y = States.atHand(2);
        y.set(DotToner.DARK, 3);
        due("2 of 3", y.print(0, 1), 76);
    }

    @Says("its darkness in hundredths is what is used times 100, divided by what it needs (100 for a dark one).")
    static void aLightPageMayHaveADarknessOf0() {
        DotToner x = States.atHand(1);
        x.print(0, 101);
        due("darkness", x.printer(0, 5), 0);
        due("it is light", x.printer(0, 2), 1);
        DotToner y = States.atHand(1);
        y.print(0, 100);
        due("1 of 100", y.printer(0, 5), 1);
    }

    @Says("its darkness in hundredths is what is used times 100, divided by what it needs (100 for a dark one).")
    static void aDarkPageIsNotDarkerThan100() {
        DotToner x = new DotToner();
        x.print(0, 1);
        due("2 of 2 with 2000 at hand", x.printer(0, 5), 100);
    }

    @Says("The chip becomes less by what it counts (for the whole page, also if it is light), but at least 0.")
    static void theChipCountsTheWholeLightPage() {
        DotToner x = States.onChip(250);
        due("light", x.print(0, 200), 72);
        due("chip", x.cup(0, 3), 50);
    }

    @Says("The chip becomes less by what it counts (for the whole page, also if it is light), but at least 0.")
    static void theChipStopsAt0() {
        int[] lefts = {1, 0, 0};
        for (int i = 0; i < lefts.length; i++) {
            DotToner x = States.onChip(10);
            x.print(0, 9 + i);
            due("chip of 10, page of " + (9 + i), x.cup(0, 3), lefts[i]);
        }
        DotToner empty = States.onChip(0);
        empty.print(0, 1);
        due("chip of 0", empty.cup(0, 3), 0);
    }

    @Says("Then a SETTLE-th part of what is at hand still (divided by SETTLE) settles.")
    static void lessThanSettleDoesNotSettle() {
        int[] parts = {2, 10, 50};
        for (int part : parts) {
            DotToner x = States.atHand(80);
            x.set(DotToner.SETTLE, part);
            int before = x.cup(0, 2);
            x.print(0, 80 - (part - 1));
            due("settled", x.cup(0, 2), before);
            due("at hand", x.cup(0, 1), part - 1);
        }
    }

    @Says("Then a SETTLE-th part of what is at hand still (divided by SETTLE) settles.")
    static void asMuchAsSettleLetsOneSettle() {
        int[] parts = {2, 10, 50};
        for (int part : parts) {
            DotToner x = States.atHand(80);
            x.set(DotToner.SETTLE, part);
            int before = x.cup(0, 2);
            x.print(0, 80 - part);
            due("settled", x.cup(0, 2), before + 1);
            due("at hand", x.cup(0, 1), part - 1);
        }
    }

    @Says("Then a SETTLE-th part of what is at hand still (divided by SETTLE) settles.")
    static void whatThePageUsedDoesNotSettle() {
        DotToner x = new DotToner();
        x.print(0, 100);
        due("settled", x.cup(0, 2), 2180);
        due("at hand", x.cup(0, 1), 1620);
    }

    @Says("Then a SETTLE-th part of what is at hand still (divided by SETTLE) settles.")
    static void nothingSettlesWithNothingAtHand() {
        DotToner x = States.atHand(60);
        x.print(0, 60);
        due("dark, all used", x.cup(0, 2), 2021);
        DotToner y = States.atHand(60);
        y.print(0, 61);
        due("light, all used", y.cup(0, 2), 2021);
    }

    @Says("a page that is refused for a reason is one, too (it is counted).")
    static void aRefusedPageOnlyIsCounted() {
        DotToner x = States.atHand(0);
        int[] before = {x.cup(0, 2), x.cup(0, 3), x.count(1), x.count(4), x.printer(0, 4), x.printer(0, 5)};
        x.print(0, 999);
        int[] then = {x.cup(0, 2), x.cup(0, 3), x.count(1), x.count(4), x.printer(0, 4), x.printer(0, 5)};
        for (int i = 0; i < before.length; i++) {
            due("number " + i, then[i], before[i]);
        }
        due("refused", x.printer(0, 3), 1);
        due("refused by the other one", x.printer(1, 3), 0);
    }

    @Says("a page that is refused for a reason is one, too (it is counted).")
    static void aPageRefusedForTheChipUsesAndSettlesNothing() {
        DotToner x = States.onChip(0);
        x.set(DotToner.STRICT, 1);
        due("print", x.print(0, 1), 2);
        due("at hand", x.cup(0, 1), 125);
        due("settled", x.cup(0, 2), 125);
        due("refused", x.printer(0, 3), 1);
        due("pages", x.count(4), 5);
    }

    // ---- shaking

    @Says("To shake a cup: half of its settled toner comes to hand.")
    static void anOddOneStaysSettled() {
        DotToner x = States.onChip(0);
        due("half of 125", x.shake(0), 62);
        due("settled", x.cup(0, 2), 63);
        due("at hand", x.cup(0, 1), 187);
    }

    @Says("To shake a cup: half of its settled toner comes to hand.")
    static void oneSettledStaysSettled() {
        DotToner x = new DotToner();
        for (int i = 0; i < 11; i++) {
            x.shake(3);
        }
        due("settled", x.cup(3, 2), 1);
        due("half of 1", x.shake(3), 0);
        due("settled still", x.cup(3, 2), 1);
        due("at hand", x.cup(3, 1), 3999);
    }

    @Says("To shake a cup: half of its settled toner comes to hand.")
    static void aCupIsShakenInAPrinterAndOutside() {
        DotToner x = new DotToner();
        for (int cup = 0; cup < 4; cup++) {
            due("shake " + cup, x.shake(cup), 1000);
            due("at hand", x.cup(cup, 1), 3000);
        }
    }

    // ---- moving

    @Says("it is taken out of the printer in which it is, if any;")
    static void aCupFromNowhereIntoAnEmptyPrinter() {
        DotToner x = new DotToner();
        x.takeOut(0);
        due("move", x.move(2, 0), 0);
        due("at hand", x.cup(2, 1), 2000);
        due("in it", x.printer(0, 0), 2);
    }

    @Says("it is taken out of the printer in which it is, if any;")
    static void aCupFromTheOtherPrinterIntoAnEmptyOne() {
        DotToner x = new DotToner();
        x.takeOut(1);
        due("move", x.move(0, 1), 40);
        due("at hand", x.cup(0, 1), 1960);
        due("left", x.printer(0, 0), Check.NOT_FOUND);
        due("entered", x.printer(1, 0), 0);
    }

    @Says("the cup that was in the printer, if any, is taken out.")
    static void aCupFromNowhereOverAnotherOne() {
        DotToner x = new DotToner();
        due("move", x.move(3, 1), 40);
        due("at hand, taken out", x.cup(1, 1), 1960);
        due("at hand, moved", x.cup(3, 1), 2000);
        due("in none", x.cup(1, 4), Check.NOT_FOUND);
        due("the other printer stays", x.printer(0, 0), 0);
    }

    @Says("the cup that was in the printer, if any, is taken out.")
    static void aCupFromTheOtherPrinterOverAnotherOne() {
        DotToner x = new DotToner();
        due("move", x.move(1, 0), 80);
        due("at hand, moved", x.cup(1, 1), 1960);
        due("at hand, taken out", x.cup(0, 1), 1960);
        due("in none", x.cup(0, 4), Check.NOT_FOUND);
        due("left", x.printer(1, 0), Check.NOT_FOUND);
    }

    @Says("A cup that is taken out of a printer spills a fiftieth of what is at hand.")
    static void aFiftiethIsRoundedDown() {
        int[] hands = {0, 1, 49, 50, 99, 100};
        int[] spilt = {0, 0, 0, 1, 1, 2};
        for (int i = 0; i < hands.length; i++) {
            DotToner x = States.atHand(hands[i]);
            x.takeOut(0);
            due("spilt of " + hands[i], x.count(2), spilt[i]);
            due("at hand of " + hands[i], x.cup(0, 1), hands[i] - spilt[i]);
        }
    }

    @Says("A cup that is taken out of a printer spills a fiftieth of what is at hand.")
    static void eachCupSpillsForItself() {
        DotToner x = States.atHand(75);
        x.move(3, 1);
        x.print(1, 999);
        x.print(1, 981 - States.beforeSettling(75));
        due("at hand", x.cup(3, 1), 75);
        due("1 and 1, not 150 / 50", x.move(0, 1), 2);
    }

    @Says("A cup that is taken out of a printer spills a fiftieth of what is at hand.")
    static void settledTonerIsNotSpilt() {
        DotToner x = States.atHand(0);
        x.takeOut(0);
        due("settled", x.cup(0, 2), 2020);
        due("spilt", x.count(2), 0);
        x.takeOut(1);
        due("settled", x.cup(1, 2), 2000);
    }

    @Says("(A cup that is moved into the printer in which it is stays there, and does not spill.)")
    static void aCupMovedWhereItIs() {
        DotToner x = new DotToner();
        due("move", x.move(1, 1), 0);
        due("at hand", x.cup(1, 1), 2000);
        due("in it", x.printer(1, 0), 1);
        due("spilt", x.count(2), 0);
        due("the other printer stays", x.printer(0, 0), 0);
    }

    // ---- refilling

    @Says("To refill a cup: toner comes, all of it settled, up to 6000 in all in the cup;")
    static void allThatComesIsSettled() {
        DotToner x = new DotToner();
        x.refill(2, 2000);
        due("at hand", x.cup(2, 1), 2000);
        due("settled", x.cup(2, 2), 4000);
    }

    @Says("To refill a cup: toner comes, all of it settled, up to 6000 in all in the cup;")
    static void aCupHolds6000() {
        int[] toners = {1999, 2000, 2001};
        int[] comes = {1999, 2000, 2000};
        for (int i = 0; i < toners.length; i++) {
            DotToner x = new DotToner();
            due("refill by " + toners[i], x.refill(3, toners[i]), comes[i]);
            due("in all", x.cup(3, 1) + x.cup(3, 2), 4000 + comes[i]);
        }
    }

    @Says("To refill a cup: toner comes, all of it settled, up to 6000 in all in the cup;")
    static void almost6000ComeIntoAnAlmostEmptyCup() {
        DotToner x = States.inAll(1);
        x.takeOut(0);
        due("refill", x.refill(0, 6000), 5999);
        due("in all", x.cup(0, 1) + x.cup(0, 2), 6000);
    }

    @Says("the kind becomes 2, whatever it was;")
    static void everyKindBecomes2() {
        DotToner x = new DotToner();
        x.takeOut(1);
        for (int cup = 1; cup < 4; cup++) {
            x.refill(cup, 1);
            due("kind", x.cup(cup, 0), 2);
        }
        due("not refilled", x.cup(0, 0), 0);
    }

    @Says("the chip stays.")
    static void anEmptyChipStaysEmpty() {
        DotToner x = States.onChip(0);
        x.takeOut(0);
        x.refill(0, 6000);
        due("chip", x.cup(0, 3), 0);
        x.refill(3, 6000);
        due("a new one", x.cup(3, 3), 4000);
    }
}
