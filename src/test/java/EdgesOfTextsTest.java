/** Edges that the document names under "Texts" and in the promises 8 to 12: append, clear, fault, run, why. */
public final class EdgesOfTextsTest {

    private static final int NONE = Check.NOT_FOUND;

    public static void main(String[] args) {
        Check.runAll(EdgesOfTextsTest.class);
        Check.finish();
    }

    private static void due(String call, long got, long want) {
        Check.due(call, got, want);
    }

    private static void faultDue(String text, int fault) {
        DotToner x = new DotToner();
        Check.write(x, text);
        due("fault of " + text, x.fault(), fault);
    }

    private static void whyDue(DotToner x, int reason, int deed, int place, int pages) {
        due("reason", x.why(0), reason);
        due("deed", x.why(1), deed);
        due("place", x.why(2), place);
        due("pages", x.why(3), pages);
    }

    // ---- the pad

    @Says("There is a pad of at most 60 characters, initially empty.")
    static void thePadIsEmptyAtFirst() {
        DotToner x = new DotToner();
        due("length", x.count(12), 0);
        due("clear", x.clear(), 0);
        due("the first one", x.append('s'), 1);
    }

    @Says("There is a pad of at most 60 characters, initially empty.")
    static void thePadTakes60Characters() {
        DotToner x = new DotToner();
        for (int length = 1; length <= 60; length++) {
            due("append", x.append('s'), length);
        }
        due("the 61st", x.append('s'), Check.LIMIT);
        due("length", x.count(12), 60);
    }

    @Says("Returns the length of the pad then; INVALID_ARGUMENT; LIMIT_REACHED if it has 60 characters.")
    static void aFullPadThatIsClearedTakesMore() {
        DotToner x = new DotToner();
        Check.write(x, "s".repeat(60));
        due("clear", x.clear(), 60);
        due("append", x.append('s'), 1);
        Check.write(x, "s0;".repeat(19) + "s0");
        due("run", x.run(), 0);
        due("append", x.append('s'), 1);
    }

    @Says("`code`: the character code, 33 to 126")
    static void theLowestCodeIs33() {
        DotToner x = new DotToner();
        due("33", x.append(33), 1);
        due("32", x.append(32), Check.INVALID);
        due("length", x.count(12), 1);
    }

    @Says("`code`: the character code, 33 to 126")
    static void theHighestCodeIs126() {
        DotToner x = new DotToner();
        due("126", x.append(126), 1);
        due("127", x.append(127), Check.INVALID);
        due("length", x.count(12), 1);
    }

    @Says("`code`: the character code, 33 to 126")
    static void aCodeIsNotWrappedAround() {
        DotToner x = new DotToner();
        int[] codes = {65536 + 's', 256 + 's', 's' - 65536, 's' - 256, -'s', Integer.MIN_VALUE + 's', Integer.MAX_VALUE};
        for (int code : codes) {
            due("append of " + code, x.append(code), Check.INVALID);
        }
        due("length", x.count(12), 0);
    }

    @Says("Returns the length that it had.")
    static void clearOfAFullAndOfAnEmptyPad() {
        DotToner x = new DotToner();
        Check.write(x, "s".repeat(60));
        due("full", x.clear(), 60);
        due("empty", x.clear(), 0);
        due("one", x.append('s'), 1);
        due("one", x.clear(), 1);
    }

    // ---- what a job is

    @Says("A job is one or more deeds with \";\" between two:")
    static void noDeedIsNoJob() {
        faultDue("", 0);
    }

    @Says("A job is one or more deeds with \";\" between two:")
    static void oneDeedIsAJob() {
        faultDue("p0:1", NONE);
        faultDue("s0", NONE);
        faultDue("m0>0", NONE);
    }

    @Says("A job is one or more deeds with \";\" between two:")
    static void asManyDeedsAsThePadTakesAreAJob() {
        faultDue("s0;".repeat(19) + "s0", NONE);
        faultDue("s0;".repeat(18) + "p0:12", NONE);
        faultDue("s0;".repeat(18) + "p0:123", NONE);
    }

    @Says("A job is one or more deeds with \";\" between two:")
    static void noSemicolonAhead() {
        faultDue(";", 0);
        faultDue(";s0", 0);
    }

    @Says("A job is one or more deeds with \";\" between two:")
    static void noSemicolonBehindTheLastDeed() {
        faultDue("s0;", 3);
        faultDue("p0:1;", 5);
    }

    @Says("A job is one or more deeds with \";\" between two:")
    static void notTwoSemicolonsBetweenTwo() {
        faultDue("s0;;s0", 3);
    }

    @Says("A job is one or more deeds with \";\" between two:")
    static void noDeedsWithoutASemicolonBetween() {
        faultDue("s0s0", 2);
        faultDue("m0>1p0:1", 4);
        faultDue("p0:1s0", 4);
        faultDue("p0:1x2s0", 6);
        faultDue("s0,s0", 2);
    }

    @Says("\"p\", a printer, \":\", and a number 1 to 999 (a page with so many dots)")
    static void theLeastDotsOfAJob() {
        faultDue("p0:1", NONE);
        faultDue("p0:0", 3);
    }

    @Says("\"p\", a printer, \":\", and a number 1 to 999 (a page with so many dots)")
    static void theMostDotsOfAJob() {
        faultDue("p0:999", NONE);
        faultDue("p0:1000", 6);
        faultDue("p0:9990", 6);
        faultDue("p0:9999999999", 6);
    }

    @Says("\"p\", a printer, \":\", and a number 1 to 999 (a page with so many dots)")
    static void everyPartOfAPageIsDue() {
        faultDue("p", 1);
        faultDue("p:1", 1);
        faultDue("p0", 2);
        faultDue("p01", 2);
        faultDue("p0>1", 2);
        faultDue("p0:", 3);
        faultDue("p0:;", 3);
        faultDue("p0:x2", 3);
    }

    @Says("and perhaps \"x\" and a number 2 to 50 (so many such pages);")
    static void theLeastPagesOfADeed() {
        faultDue("p0:1x2", NONE);
        faultDue("p0:1x1", 6);
        faultDue("p0:1x1;", 6);
        faultDue("p0:1x0", 5);
    }

    @Says("and perhaps \"x\" and a number 2 to 50 (so many such pages);")
    static void theMostPagesOfADeed() {
        faultDue("p0:1x50", NONE);
        faultDue("p0:1x49", NONE);
        faultDue("p0:1x51", 6);
        faultDue("p0:1x59", 6);
        faultDue("p0:1x60", 6);
        faultDue("p0:1x500", 7);
        faultDue("p0:1x100", 7);
    }

    @Says("and perhaps \"x\" and a number 2 to 50 (so many such pages);")
    static void aNumberThatMayGrowIsNotWrong() {
        faultDue("p0:1x1", 6);
        faultDue("p0:1x10", NONE);
        faultDue("p0:1x19", NONE);
        faultDue("p0:1x5", NONE);
        faultDue("p0:1x6", NONE);
    }

    @Says("numbers have no needless 0 ahead.")
    static void signsBesideTheDigitsAreNoDigits() {
        faultDue("p0:/", 3);
        faultDue("p0::", 3);
        faultDue("p0:1/", 4);
        faultDue("p0:1:", 4);
        faultDue("p0:1x/", 5);
        faultDue("p0:1x:", 5);
        faultDue("p0:1x1/", 6);
        faultDue("p0:1x1:", 6);
    }

    @Says("and perhaps \"x\" and a number 2 to 50 (so many such pages);")
    static void xOnlyOnceAndOnlyBehindAPage() {
        faultDue("p0:1x", 5);
        faultDue("p0:1x;", 5);
        faultDue("p0:1xx2", 5);
        faultDue("p0:1x2x2", 6);
        faultDue("s0x2", 2);
        faultDue("m0>0x2", 4);
    }

    @Says("\"s\" and a cup (it is shaken);")
    static void cupsThatAreShaken() {
        faultDue("s0", NONE);
        faultDue("s3", NONE);
        faultDue("s4", 1);
        faultDue("s/", 1);
        faultDue("s", 1);
        faultDue("s;", 1);
        faultDue("s00", 2);
    }

    @Says("\"m\", a cup, \">\", and a printer (it is moved).")
    static void cupsThatAreMoved() {
        faultDue("m0>0", NONE);
        faultDue("m3>1", NONE);
        faultDue("m4>0", 1);
        faultDue("m0>2", 3);
        faultDue("m/>0", 1);
        faultDue("m0>/", 3);
    }

    @Says("\"m\", a cup, \">\", and a printer (it is moved).")
    static void everyPartOfAMoveIsDue() {
        faultDue("m", 1);
        faultDue("m>0", 1);
        faultDue("m0", 2);
        faultDue("m0:0", 2);
        faultDue("m00", 2);
        faultDue("m0>", 3);
        faultDue("m0>;", 3);
        faultDue("m0>00", 4);
    }

    @Says("Printers are 0 or 1, cups 0 to 3; numbers have no needless 0 ahead.")
    static void printersOfAJob() {
        faultDue("p0:1", NONE);
        faultDue("p1:1", NONE);
        faultDue("p2:1", 1);
        faultDue("p/:1", 1);
        faultDue("p00:1", 2);
        faultDue("p10:1", 2);
    }

    @Says("Printers are 0 or 1, cups 0 to 3; numbers have no needless 0 ahead.")
    static void noNeedless0() {
        faultDue("p0:01", 3);
        faultDue("p0:001", 3);
        faultDue("p0:1x02", 5);
        faultDue("p0:1x002", 5);
        faultDue("p0:100", NONE);
        faultDue("p0:10x20", NONE);
    }

    @Says("A job is one or more deeds with \";\" between two:")
    static void lettersAreSmallAndFew() {
        faultDue("P0:1", 0);
        faultDue("S0", 0);
        faultDue("M0>0", 0);
        faultDue("p0:1X2", 4);
        faultDue("x", 0);
        faultDue("0", 0);
        faultDue("s0;q", 3);
    }

    // ---- fault

    @Says("the first character that is wrong: no job, of any length, begins with the characters before it and this character;")
    static void theFirstOfSeveralFaults() {
        faultDue("s9;s9;s9", 1);
        faultDue("s0;s9;s9", 4);
        faultDue("s0;s0;s9", 7);
        faultDue("~~~", 0);
    }

    @Says("the first character that is wrong: no job, of any length, begins with the characters before it and this character;")
    static void aJobMayBeLongerThanThePad() {
        faultDue("s0;".repeat(20), 60);
        faultDue("s0;".repeat(19) + "s0p", 59);
        faultDue("s0;".repeat(19) + "p0:", 60);
        faultDue("s0;".repeat(19) + "m3>", 60);
        faultDue("s0;".repeat(18) + "p0:1x1", 60);
        faultDue("s0;".repeat(18) + "s0;p0;", 59);
    }

    @Says("if there is none, and the pad is not complete (also if it is empty), the length of the pad.")
    static void theFaultOfAnIncompletePadIsItsLength() {
        String job = "p0:10x12;s0;m0>1";
        int[] faults = {0, 1, 2, 3, NONE, NONE, 6, 7, NONE, 9, 10, NONE, 12, 13, 14, 15, NONE};
        for (int length = 0; length <= job.length(); length++) {
            faultDue(job.substring(0, length), faults[length]);
        }
    }

    @Says("if there is none, and the pad is not complete (also if it is empty), the length of the pad.")
    static void theFaultOfAnEmptyPadIs0() {
        DotToner x = new DotToner();
        due("at first", x.fault(), 0);
        Check.write(x, "s0");
        x.clear();
        due("cleared", x.fault(), 0);
        Check.runText(x, "s0");
        due("run", x.fault(), 0);
    }

    @Says("Returns the fault; NOT_FOUND if it has none.")
    static void faultAgainAndWithMore() {
        DotToner x = new DotToner();
        Check.write(x, "p0:1x1");
        due("fault", x.fault(), 6);
        due("fault again", x.fault(), 6);
        x.append('0');
        due("none", x.fault(), NONE);
        x.append('0');
        due("too many", x.fault(), 7);
        due("the pad stays", x.count(12), 8);
    }

    // ---- run

    @Says("Runs the job of the pad, deed by deed and page by page, up to the first page that is refused (which is counted), and empties the pad.")
    static void nothingIsDoneBehindTheRefusedPage() {
        DotToner x = new DotToner();
        x.takeOut(0);
        due("run", Check.runText(x, "s2;p1:1;p0:1x3;p1:1;s3;m3>0"), 1);
        due("before it: shaken", x.cup(2, 2), 1000);
        due("refused once", x.printer(0, 3), 1);
        due("no page behind it", x.printer(1, 1), 1);
        due("not shaken behind it", x.cup(3, 2), 2000);
        due("not moved behind it", x.printer(0, 0), NONE);
    }

    @Says("Runs the job of the pad, deed by deed and page by page, up to the first page that is refused (which is counted), and empties the pad.")
    static void thePadIsEmptyBehindARun() {
        DotToner x = new DotToner();
        Check.runText(x, "p0:1");
        due("done", x.count(12), 0);
        x.takeOut(0);
        Check.runText(x, "p0:1");
        due("stopped", x.count(12), 0);
        due("again", x.run(), Check.NOT_POSSIBLE);
    }

    @Says("This is one change, also if none is done.")
    static void aRunOfManyDeedsIsOneChange() {
        DotToner x = new DotToner();
        Check.runText(x, "p0:1x50;s1;m2>0;p1:1");
        due("states", x.count(13), 1);
        due("undo", x.undo(), 0);
        due("pages", x.count(4), 0);
        due("shaken", x.cup(1, 2), 2000);
        due("moved", x.printer(0, 0), 0);
    }

    @Says("This is one change, also if none is done.")
    static void aRunOfWhichNoneIsDoneIsOneChange() {
        DotToner x = new DotToner();
        x.takeOut(0);
        due("run", Check.runText(x, "p0:1;s1"), 0);
        due("states", x.count(13), 2);
        due("refused", x.printer(0, 3), 1);
        due("undo", x.undo(), 1);
        due("not refused", x.printer(0, 3), 0);
    }

    @Says("Returns how many pages are printed; NOT_POSSIBLE if the pad has a fault.")
    static void lightPagesArePrinted() {
        DotToner x = new DotToner();
        x.set(DotToner.DARK, 5);
        due("two light ones", Check.runText(x, "p0:999;p1:999"), 2);
        due("dark", x.printer(0, 1) + x.printer(1, 1), 0);
    }

    @Says("up to the first page that is refused (which is counted)")
    static void aPageWithADarknessOf0IsNotRefused() {
        DotToner x = States.atHand(1);
        due("run", Check.runText(x, "p0:101;s0;p0:1"), 2);
        due("darkness of the light one", x.printer(0, 2), 1);
        whyDue(x, NONE, NONE, NONE, NONE);
    }

    @Says("Runs the job of the pad, deed by deed and page by page, up to the first page that is refused (which is counted), and empties the pad.")
    static void nothingIsLeftOfTheJobBefore() {
        DotToner x = new DotToner();
        due("pages", Check.runText(x, "p0:1x3;p1:2x4"), 7);
        due("moved", Check.runText(x, "m2>0;s1"), 0);
        due("moved", x.printer(0, 0), 2);
        // 1997, 199 settle; 1795, 179 settle; 1613, 161 settle; 1449, 144 settle: 1305 and 2683
        due("shaken", x.cup(1, 1), 1305 + 1341);
        due("one page", Check.runText(x, "p0:1"), 1);
        due("shaken", Check.runText(x, "s3"), 0);
        due("shaken", x.cup(3, 1), 3000);
        due("pages", x.count(4), 8);
    }

    @Says("Returns how many pages are printed; NOT_POSSIBLE if the pad has a fault.")
    static void aRunWithoutPagesPrintsNone() {
        DotToner x = new DotToner();
        due("run", Check.runText(x, "s0;m2>1"), 0);
        due("shaken", x.cup(0, 1), 3000);
        due("moved", x.printer(1, 0), 2);
    }

    @Says("Returns how many pages are printed; NOT_POSSIBLE if the pad has a fault.")
    static void theMostPagesOfAJob() {
        DotToner x = new DotToner();
        x.set(DotToner.DARK, 1);
        x.set(DotToner.SETTLE, 50);
        due("50", Check.runText(x, "p0:1x50"), 50);
        due("dots", x.printer(0, 4), 50);
        due("6 times 50, nothing needed", Check.runText(x, "p1:1x50;p1:1x50;p1:1x50;p1:1x50;p1:1x50;p1:1x50"), 300);
        due("dark", x.printer(1, 1), 300);
    }

    @Says("Returns how many pages are printed; NOT_POSSIBLE if the pad has a fault.")
    static void noRunOfAnEmptyPad() {
        DotToner x = new DotToner();
        due("run", x.run(), Check.NOT_POSSIBLE);
        due("states", x.count(13), 0);
    }

    @Says("Returns how many pages are printed; NOT_POSSIBLE if the pad has a fault.")
    static void noRunOfAFaultyPad() {
        String[] texts = {"p0:1;", "p0:1;s4", "p0:1x1", "p0:1x51", "p0:1000", "s0;s0;s"};
        for (String text : texts) {
            DotToner x = new DotToner();
            due("run of " + text, Check.runText(x, text), Check.NOT_POSSIBLE);
            due("the pad stays", x.count(12), text.length());
            due("nothing is printed", x.count(4), 0);
            due("nothing is shaken", x.cup(0, 2), 2000);
            due("states", x.count(13), 0);
        }
    }

    @Says("deed by deed and page by page")
    static void aRunDoesWhatTheCallsDo() {
        DotToner x = new DotToner();
        DotToner y = new DotToner();
        due("run", Check.runText(x, "p0:300x3;s0;p0:999;m0>1;m1>1;p1:20x2;m3>0;s3"), 6);
        for (int page = 0; page < 3; page++) {
            y.print(0, 300);
        }
        y.shake(0);
        y.print(0, 999);
        y.move(0, 1);
        y.move(1, 1);
        y.print(1, 20);
        y.print(1, 20);
        y.move(3, 0);
        y.shake(3);
        due("states", y.count(13), 4);
        for (int what = 0; what < 8; what++) {
            for (int cup = 0; cup < 4; cup++) {
                due("cup " + cup + " " + what, x.cup(cup, what), y.cup(cup, what));
            }
        }
        for (int what = 0; what < 6; what++) {
            due("printer 0 " + what, x.printer(0, what), y.printer(0, what));
            due("printer 1 " + what, x.printer(1, what), y.printer(1, what));
        }
        for (int what = 0; what < 8; what++) {
            due("count " + what, x.count(what), y.count(what));
        }
    }

    @Says("(A cup that is moved into the printer in which it is stays there, and does not spill.)")
    static void aCupMovedWhereItIsByAJob() {
        DotToner x = new DotToner();
        Check.runText(x, "m0>0;m0>0");
        due("spilt", x.count(2), 0);
        due("in it", x.printer(0, 0), 0);
    }

    // ---- why

    @Says("Returns the number; INVALID_ARGUMENT; NOT_FOUND if there was no such call, or no page was refused.")
    static void whyBeforeAnyRun() {
        whyDue(new DotToner(), NONE, NONE, NONE, NONE);
    }

    @Says("Returns the number; INVALID_ARGUMENT; NOT_FOUND if there was no such call, or no page was refused.")
    static void whyBehindARunThatDidNotStop() {
        DotToner x = new DotToner();
        due("run", Check.runText(x, "p0:1x9"), 9);
        whyDue(x, NONE, NONE, NONE, NONE);
        x.takeOut(0);
        Check.runText(x, "p0:1");
        whyDue(x, 1, 0, 0, 0);
        Check.runText(x, "p1:1");
        whyDue(x, NONE, NONE, NONE, NONE);
    }

    @Says("Tells about the page at which the latest call of run() that returned no error stopped.")
    static void aRunWithAnErrorLeavesWhy() {
        DotToner x = new DotToner();
        due("none before", Check.runText(x, "s"), Check.NOT_POSSIBLE);
        whyDue(x, NONE, NONE, NONE, NONE);
        x.takeOut(0);
        Check.runText(x, "p1:1;p0:1");
        x.run();
        whyDue(x, 1, 1, 5, 0);
        Check.runText(x, "p1:1;p");
        whyDue(x, 1, 1, 5, 0);
    }

    @Says("Tells about the page at which the latest call of run() that returned no error stopped.")
    static void aPageRefusedByPrintIsNotWhy() {
        DotToner x = new DotToner();
        x.takeOut(0);
        x.print(0, 1);
        whyDue(x, NONE, NONE, NONE, NONE);
        Check.runText(x, "s0;p0:1");
        x.takeOut(1);
        x.print(1, 1);
        whyDue(x, 1, 1, 3, 0);
    }

    @Says("0: the reason; 1: the number of its deed, from 0; 2: the position of its letter in the pad; 3: how many pages of the same deed were printed")
    static void whyOfTheFirstPageOfTheFirstDeed() {
        DotToner x = States.atHand(0);
        Check.runText(x, "p0:1x50;s0");
        whyDue(x, 3, 0, 0, 0);
    }

    @Says("0: the reason; 1: the number of its deed, from 0; 2: the position of its letter in the pad; 3: how many pages of the same deed were printed")
    static void whyOfTheLastPageOfTheLastDeed() {
        DotToner x = States.atHand(49);
        Check.runText(x, "s3;".repeat(17) + "p0:1x50");
        whyDue(x, 3, 17, 51, 49);
        DotToner y = new DotToner();
        y.takeOut(0);
        Check.runText(y, "s3;".repeat(18) + "p0:1");
        whyDue(y, 1, 18, 54, 0);
    }

    @Says("0: the reason; 1: the number of its deed, from 0; 2: the position of its letter in the pad; 3: how many pages of the same deed were printed")
    static void pagesOfOtherDeedsAreNotCounted() {
        DotToner x = States.atHand(6);
        Check.runText(x, "p1:1x20;p0:1x4;p0:1x3");
        whyDue(x, 3, 2, 15, 2);
    }

    @Says("0: the reason; 1: the number of its deed, from 0; 2: the position of its letter in the pad; 3: how many pages of the same deed were printed")
    static void whyOfAnEmptyChip() {
        DotToner x = States.onChip(2);
        x.set(DotToner.STRICT, 1);
        Check.runText(x, "s1;p0:1x3");
        whyDue(x, 2, 1, 3, 2);
    }

    @Says("(This is not a part of what is undone, or restored.)")
    static void whyIsNotUndone() {
        DotToner x = new DotToner();
        x.takeOut(0);
        Check.runText(x, "s0;p0:1");
        x.undo();
        x.undo();
        whyDue(x, 1, 1, 3, 0);
        Check.runText(x, "p0:1");
        x.undo();
        whyDue(x, NONE, NONE, NONE, NONE);
    }

    @Says("(This is not a part of what is undone, or restored.)")
    static void whyIsNotRestored() {
        DotToner x = new DotToner();
        x.save();
        x.takeOut(0);
        Check.runText(x, "s0;p0:1");
        x.save();
        x.restore();
        whyDue(x, 1, 1, 3, 0);
        x.move(0, 0);
        Check.runText(x, "p0:1");
        x.restore();
        whyDue(x, NONE, NONE, NONE, NONE);
    }

    @Says("Returns the number; INVALID_ARGUMENT; NOT_FOUND if there was no such call, or no page was refused.")
    static void whyOfNoSuchNumber() {
        DotToner x = new DotToner();
        for (int time = 0; time < 2; time++) {
            for (int what : new int[] {-1, 4, Integer.MIN_VALUE, Integer.MAX_VALUE}) {
                due("why " + what, x.why(what), Check.INVALID);
            }
            x.takeOut(0);
            Check.runText(x, "p0:1");
        }
    }
}
