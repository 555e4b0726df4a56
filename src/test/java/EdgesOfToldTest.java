/** Edges that the document names under "What is told" and "Settings", and in what is told of cups and jobs. */
public final class EdgesOfToldTest {

    public static void main(String[] args) {
        Check.runAll(EdgesOfToldTest.class);
        Check.finish();
    }

    private static void due(String call, long got, long want) {
        Check.due(call, got, want);
    }

    private static DotToner with(int what, int value) {
        DotToner x = new DotToner();
        x.set(what, value);
        return x;
    }

    /** The cup 0 has nothing at hand and 2000 settled; DARK is 5. */
    private static DotToner onlySettled() {
        DotToner x = with(DotToner.DARK, 5);
        x.print(0, 400);
        due("made: at hand", x.cup(0, 1), 0);
        due("made: settled", x.cup(0, 2), 2000);
        return x;
    }

    // ---- the scale and the chip

    @Says("The scale tells all toner of a cup, rounded down to a multiple of SCALE.")
    static void aMultipleOfScaleIsToldAsItIs() {
        DotToner x = new DotToner();
        int[] scales = {1, 2, 50, 400, 500};
        for (int scale : scales) {
            x.set(DotToner.SCALE, scale);
            due("4000 by " + scale, x.cup(0, 5), 4000);
        }
    }

    @Says("The scale tells all toner of a cup, rounded down to a multiple of SCALE.")
    static void oneLessThanAMultipleIsRoundedDown() {
        DotToner x = with(DotToner.DARK, 1);
        x.print(0, 1);
        int[] scales = {1, 2, 50, 400, 500};
        int[] dues = {3999, 3998, 3950, 3600, 3500};
        for (int i = 0; i < scales.length; i++) {
            x.set(DotToner.SCALE, scales[i]);
            due("3999 by " + scales[i], x.cup(0, 5), dues[i]);
        }
    }

    @Says("The scale tells all toner of a cup, rounded down to a multiple of SCALE.")
    static void lessThanScaleIsToldAsNothing() {
        DotToner x = States.onChip(0);
        int[] scales = {500, 251, 250, 249, 126, 125};
        int[] dues = {0, 0, 250, 249, 126, 250};
        for (int i = 0; i < scales.length; i++) {
            x.set(DotToner.SCALE, scales[i]);
            due("250 by " + scales[i], x.cup(0, 5), dues[i]);
        }
    }

    @Says("The scale tells all toner of a cup, rounded down to a multiple of SCALE.")
    static void theScaleTellsAFullCup() {
        DotToner x = new DotToner();
        x.refill(3, 1999);
        due("5999", x.cup(3, 5), 5950);
        x.refill(3, 1);
        due("6000", x.cup(3, 5), 6000);
    }

    @Says("What is told as left is the mean of both.")
    static void theMeanIsRoundedDown() {
        DotToner x = States.onChip(1);
        x.set(DotToner.SCALE, 250);
        due("250 and 1", x.cup(0, 6), 125);
        x.set(DotToner.SCALE, 500);
        due("0 and 1", x.cup(0, 6), 0);
        x.set(DotToner.SCALE, 249);
        due("249 and 1, rounded once", x.cup(0, 6), 125);
        DotToner y = States.onChip(2);
        y.set(DotToner.SCALE, 249);
        due("249 and 2", y.cup(0, 6), 125);
    }

    @Says("What is told as left is the mean of both.")
    static void theMeanWithAnEmptyChip() {
        DotToner x = States.onChip(0);
        x.set(DotToner.SCALE, 250);
        due("250 and 0", x.cup(0, 6), 125);
        x.set(DotToner.SCALE, 500);
        due("0 and 0", x.cup(0, 6), 0);
    }

    @Says("7: what is told as left less all its toner, 100000 added to it")
    static void toldLessThanThereIs() {
        DotToner x = States.onChip(0);
        x.set(DotToner.SCALE, 500);
        due("0 told of 250", x.cup(0, 7), 99750);
        DotToner y = new DotToner();
        y.refill(3, 2000);
        due("5000 told of 6000", y.cup(3, 7), 99000);
    }

    @Says("7: what is told as left less all its toner, 100000 added to it")
    static void toldAsMuchAsThereIs() {
        due("4000 of 4000", new DotToner().cup(0, 7), 100000);
    }

    @Says("7: what is told as left less all its toner, 100000 added to it")
    static void toldMoreThanThereIs() {
        DotToner x = new DotToner();
        x.takeOut(0);
        // the scale tells 3950 of 3960, the chip 4000
        due("3975 told of 3960", x.cup(0, 7), 100015);
    }

    @Says("7: cups of which more is told as left than they have;")
    static void cupsToldExactlyAreNotCounted() {
        DotToner x = new DotToner();
        due("none", x.count(7), 0);
        x.refill(3, 100);
        due("less told", x.count(7), 0);
        x.takeOut(0);
        due("one", x.count(7), 1);
        x.move(2, 1);
        x.takeOut(1);
        due("and 1 and 2", x.count(7), 3);
    }

    @Says("7: cups of which more is told as left than they have;")
    static void oneMoreToldIsCounted() {
        DotToner x = with(DotToner.SCALE, 1);
        x.set(DotToner.DARK, 1);
        x.print(0, 999);
        x.print(0, 800);
        x.takeOut(0);
        // of 93 at hand 1 is spilt: toner 2200, chip 2201
        due("toner", x.cup(0, 1) + x.cup(0, 2), 2200);
        due("chip", x.cup(0, 3), 2201);
        due("2200 told of 2200", x.count(7), 0);
        x.move(0, 0);
        x.takeOut(0);
        due("toner", x.cup(0, 1) + x.cup(0, 2), 2199);
        due("2200 told of 2199", x.count(7), 1);
        due("one more", x.cup(0, 7), 100001);
    }

    @Says("6: what is told as left of all cups together;")
    static void whatIsToldOfAllIsRoundedCupByCup() {
        DotToner x = with(DotToner.DARK, 1);
        x.set(DotToner.SCALE, 500);
        x.takeOut(1);
        x.move(3, 1);
        x.print(0, 1);
        x.print(1, 1);
        // (3500 + 3999) / 2 twice, (3500 + 4000) / 2, 4000
        due("together", x.count(6), 3749 + 3749 + 3750 + 4000);
    }

    // ---- how many pages a cup lasts

    @Says("(0 if the first one would not be dark; at most 999).")
    static void lastsNoneIfTheFirstWouldBeLight() {
        DotToner x = States.atHand(99);
        due("99 of 100", x.lasts(0, 100, false), 0);
        due("99 of 99", x.lasts(0, 99, false), 1);
    }

    @Says("(0 if the first one would not be dark; at most 999).")
    static void lastsNoneIfTheFirstWouldBeRefused() {
        DotToner x = States.atHand(0);
        due("nothing at hand", x.lasts(0, 1, false), 0);
        x.set(DotToner.DARK, 4);
        x.print(1, 667);
        x.set(DotToner.DARK, 1);
        due("nothing at hand, nothing needed", x.lasts(1, 1, false), 0);
    }

    @Says("(0 if the first one would not be dark; at most 999).")
    static void lastsAtMost999() {
        // with 1 a page and shaking all is used but the last one, which stays settled
        int[] toners = {999, 1000, 1001};
        int[] dues = {998, 999, 999};
        for (int i = 0; i < toners.length; i++) {
            due("with " + toners[i], States.inAll(toners[i]).lasts(0, 1, true), dues[i]);
        }
    }

    @Says("(0 if the first one would not be dark; at most 999).")
    static void lastsAtMost999IfNothingIsNeeded() {
        DotToner x = with(DotToner.DARK, 1);
        due("without shaking", x.lasts(1, 1, false), 999);
        due("with shaking", x.lasts(1, 1, true), 999);
    }

    @Says("until the next one would not be dark, whatever STRICT and the chip tell")
    static void lastsWhateverTheChipTells() {
        DotToner x = States.onChip(0);
        x.set(DotToner.STRICT, 1);
        due("refused now", x.whyNot(0), 2);
        due("without shaking", x.lasts(0, 125, false), 1);
        due("with shaking", x.lasts(0, 62, true), 3);
    }

    @Says("until the next one would not be dark, whatever STRICT and the chip tell")
    static void theLastDarkPageMayUseAll() {
        DotToner x = with(DotToner.DARK, 5);
        due("exactly", x.lasts(0, 400, false), 1);
        due("one dot more", x.lasts(0, 401, false), 0);
        x.set(DotToner.DARK, 1);
        // of 1001 100 settle
        due("two pages, exactly", x.lasts(0, 999, false), 1);
        due("two pages, exactly", x.atHand(0, 999, 1, 0), 901);
        x.print(0, 999);
        due("exactly", x.lasts(0, 901, false), 1);
        due("one dot more", x.lasts(0, 902, false), 0);
    }

    @Says("How many pages with d dots a cup lasts at the darkness of now:")
    static void lastsAtTheDarknessOfNow() {
        DotToner x = with(DotToner.DARK, 5);
        due("5", x.lasts(3, 999, true), 0);
        x.set(DotToner.DARK, 2);
        due("2", x.lasts(3, 999, true), 1);
    }

    @Says("With shaking: whenever the next one would not be dark, it is shaken once first, if that makes it dark.")
    static void shakenOnceAndNotTwice() {
        DotToner x = onlySettled();
        due("half is enough", x.lasts(0, 200, true), 1);
        due("half is not enough, three quarters are", x.lasts(0, 201, true), 0);
        due("without shaking", x.lasts(0, 200, false), 0);
    }

    @Says("With shaking: whenever the next one would not be dark, it is shaken once first, if that makes it dark.")
    static void shakenBeforeEveryPageThatNeedsIt() {
        DotToner x = onlySettled();
        // 1000 - 500, 50 settle; 975 - 500, 47 settle; 714 - 500, 21 settle; 346
        due("shaken three times", x.lasts(0, 100, true), 3);
    }

    @Says("With shaking: whenever the next one would not be dark, it is shaken once first, if that makes it dark.")
    static void notShakenBeforeItIsDue() {
        DotToner x = with(DotToner.DARK, 5);
        x.set(DotToner.SETTLE, 2);
        // 2000 - 1500, 250 settle; 250 and 2250; shaken 1375. (Shaken at once there would be 1625 for the second.)
        due("shaken at the second page", x.lasts(0, 300, true), 1);
        // 2000 - 1375, 312 settle; 313 and 2312; shaken 1469 - 1375, 47 settle; 47 and 1203; shaken 648
        due("shaken at the second page, less dots", x.lasts(0, 275, true), 2);
    }

    @Says("With shaking: whenever the next one would not be dark, it is shaken once first, if that makes it dark.")
    static void shakenForAPageThatNeedsNothing() {
        DotToner x = with(DotToner.DARK, 4);
        x.print(1, 667);
        x.set(DotToner.DARK, 1);
        due("nothing at hand", x.cup(1, 1), 0);
        due("with shaking", x.lasts(1, 1, true), 999);
    }

    @Says("Tells how many pages a cup lasts.")
    static void aCupInNoPrinterLastsToo() {
        DotToner x = with(DotToner.DARK, 5);
        due("cup 3", x.lasts(3, 400, false), 1);
        due("cup 2", x.lasts(2, 355, false), 1);
        due("cup 2, one dot more", x.lasts(2, 356, false), 0);
    }

    // ---- toner at hand behind some pages

    @Says("Returns how much toner would be at hand behind some dark pages without shaking.")
    static void atHandBehindNoPages() {
        DotToner x = new DotToner();
        due("page by page", x.atHand(0, 999, 0, 0), 2000);
        due("added up", x.atHand(0, 999, 0, 1), 2000);
        DotToner y = States.atHand(0);
        due("nothing, page by page", y.atHand(0, 999, 0, 0), 0);
        due("nothing, added up", y.atHand(0, 999, 0, 1), 0);
    }

    @Says("`pages`: 0 to 50")
    static void atHandBehind50Pages() {
        DotToner x = with(DotToner.DARK, 1);
        x.set(DotToner.SETTLE, 50);
        int hand = 2000;
        for (int page = 0; page < 50; page++) {
            hand = hand - 7 - (hand - 7) / 50;
        }
        due("page by page", x.atHand(0, 7, 50, 0), hand);
        due("added up", x.atHand(0, 7, 50, 1), hand);
        due("51, page by page", x.atHand(0, 7, 51, 0), Check.INVALID);
        due("51, added up", x.atHand(0, 7, 51, 1), Check.INVALID);
        due("-1, page by page", x.atHand(0, 7, -1, 0), Check.INVALID);
        due("-1, added up", x.atHand(0, 7, -1, 1), Check.INVALID);
    }

    @Says("NOT_FOUND if it does not last for so many.")
    static void atHandBehindOnePageTooMany() {
        DotToner x = with(DotToner.DARK, 5);
        for (int way = 0; way < 2; way++) {
            // 2000, 1350, 765, 239
            due("3 pages", x.atHand(0, 100, 3, way), 239);
            due("4 pages", x.atHand(0, 100, 4, way), Check.NOT_FOUND);
            due("all is used", x.atHand(0, 400, 1, way), 0);
            due("one dot too many", x.atHand(0, 401, 1, way), Check.NOT_FOUND);
            due("nothing is left for a second one", x.atHand(0, 400, 2, way), Check.NOT_FOUND);
        }
    }

    @Says("NOT_FOUND if it does not last for so many.")
    static void atHandOfACupWithNothingAtHand() {
        DotToner x = with(DotToner.DARK, 4);
        x.print(1, 667);
        x.set(DotToner.DARK, 1);
        for (int way = 0; way < 2; way++) {
            due("none needed", x.atHand(1, 1, 1, way), Check.NOT_FOUND);
            due("no page", x.atHand(1, 1, 0, way), 0);
        }
    }

    @Says("Returns how much toner would be at hand behind some dark pages without shaking.")
    static void atHandWhateverTheChipTells() {
        DotToner x = States.onChip(0);
        x.set(DotToner.STRICT, 1);
        due("page by page", x.atHand(0, 25, 1, 0), 90);
        due("added up", x.atHand(0, 25, 1, 1), 90);
    }

    @Says("1: told by what was at hand at first, less all that is used and all that settles, each added up")
    static void bothWaysAreTheSame() {
        DotToner x = new DotToner();
        int[] parts = {2, 3, 10, 49, 50};
        int[] dots = {1, 2, 37, 250};
        for (int part : parts) {
            x.set(DotToner.SETTLE, part);
            for (int dot : dots) {
                for (int pages = 0; pages <= 6; pages += 2) {
                    String call = "SETTLE " + part + ", " + dot + " dots, " + pages + " pages";
                    due(call, x.atHand(1, dot, pages, 1), x.atHand(1, dot, pages, 0));
                }
            }
        }
    }

    // ---- the best cup, the greatest darkness

    @Says("Returns the cup that lasts for so many pages with shaking, and has the least toner, of several the lowest;")
    static void ofSeveralBestCupsTheLowest() {
        DotToner x = new DotToner();
        due("all alike", x.bestFor(10, 1), 0);
        x.takeOut(0);
        x.takeOut(1);
        x.refill(0, 6000);
        due("1, 2 and 3 are left", x.bestFor(10, 1), 1);
        x.refill(1, 6000);
        due("2 and 3 are left", x.bestFor(10, 1), 2);
        x.refill(2, 6000);
        due("3 is left", x.bestFor(10, 1), 3);
        x.refill(3, 6000);
        due("all are full", x.bestFor(10, 1), 0);
    }

    @Says("Returns the cup that lasts for so many pages with shaking, and has the least toner, of several the lowest;")
    static void oneLessIsTheLeastToner() {
        DotToner x = with(DotToner.DARK, 1);
        x.move(3, 1);
        x.print(1, 1);
        x.refill(1, 39);
        due("toner of 1", x.count(0) - 4000 - 4000 - 3999, 3999);
        due("1 and 3 alike", x.bestFor(10, 1), 1);
        x.print(1, 1);
        due("one less in 3", x.bestFor(10, 1), 3);
    }

    @Says("Returns the cup that lasts for so many pages with shaking, and has the least toner, of several the lowest;")
    static void settledTonerIsTonerToo() {
        DotToner x = with(DotToner.DARK, 1);
        x.shake(3);
        x.print(0, 999);
        x.takeOut(0);
        x.takeOut(1);
        // the cup 0 has 883 at hand and 2100 settled, the cup 1 1960 and 2000
        due("least in all", x.bestFor(10, 1), 0);
        x.shake(0);
        due("though more is at hand", x.bestFor(10, 1), 0);
    }

    @Says("NOT_FOUND if none lasts for so many.")
    static void noCupLastsForSoMany() {
        DotToner x = with(DotToner.DARK, 5);
        // shaken all have 3000; the thrifty one needs 15/4 a dot
        due("800 dots", x.bestFor(800, 1), 1);
        due("801 dots: 3003", x.bestFor(801, 1), Check.NOT_FOUND);
        due("600 dots", x.bestFor(600, 1), 0);
        due("601 dots", x.bestFor(601, 1), 1);
    }

    @Says("Returns the cup that lasts for so many pages with shaking, and has the least toner, of several the lowest;")
    static void bestWhateverTheChipTells() {
        DotToner x = States.onChip(0);
        x.set(DotToner.STRICT, 1);
        due("one page", x.bestFor(125, 1), 0);
        due("with shaking", x.bestFor(187, 1), 0);
        due("one dot more", x.bestFor(188, 1), 1);
    }

    @Says("Returns the greatest DARK, 1 to 5, with which it lasts for so many pages with shaking;")
    static void theGreatestDarknessIs5() {
        DotToner x = with(DotToner.DARK, 1);
        due("least job", x.darkest(0, 1, 1), 5);
        due("exactly", x.darkest(0, 600, 1), 5);
        due("one dot more", x.darkest(0, 601, 1), 4);
    }

    @Says("Returns the greatest DARK, 1 to 5, with which it lasts for so many pages with shaking;")
    static void theLeastDarknessIs1() {
        DotToner x = States.onChip(0);
        x.set(DotToner.DARK, 5);
        // 125 at hand, 187 shaken
        due("exactly 1", x.darkest(0, 187, 1), 1);
        due("exactly 2", x.darkest(0, 93, 1), 2);
        due("one dot more", x.darkest(0, 94, 1), 1);
    }

    @Says("NOT_FOUND if there is none.")
    static void noDarknessIsLightEnough() {
        DotToner x = States.onChip(0);
        due("one dot more than at 1", x.darkest(0, 188, 1), Check.NOT_FOUND);
        due("one page more", x.darkest(0, 187, 2), Check.NOT_FOUND);
        due("most of all", new DotToner().darkest(2, 999, 50), Check.NOT_FOUND);
    }

    @Says("Returns the greatest DARK, 1 to 5, with which it lasts for so many pages with shaking;")
    static void darkestWhateverTheChipTells() {
        DotToner x = States.onChip(0);
        x.set(DotToner.STRICT, 1);
        due("strict", x.darkest(0, 25, 1), 5);
    }

    @Says("Returns the greatest DARK, 1 to 5, with which it lasts for so many pages with shaking;")
    static void darkestChangesNothing() {
        States.changesNothing(x -> x.shake(2), x -> x.darkest(2, 999, 1), 3);
    }

    // ---- settings

    @Says("DARK (1 to 5; 2): the darkness;")
    static void rangeOfDark() {
        range(DotToner.DARK, 1, 5, 2);
    }

    @Says("SETTLE (2 to 50; 10);")
    static void rangeOfSettle() {
        range(DotToner.SETTLE, 2, 50, 10);
    }

    @Says("STRICT (0 or 1; 0);")
    static void rangeOfStrict() {
        range(DotToner.STRICT, 0, 1, 0);
    }

    @Says("SCALE (1 to 500; 50).")
    static void rangeOfScale() {
        range(DotToner.SCALE, 1, 500, 50);
    }

    private static void range(int what, int lowest, int highest, int first) {
        DotToner x = new DotToner();
        due("first", x.count(8 + what), first);
        due("one less than the lowest", x.set(what, lowest - 1), Check.INVALID);
        due("one more than the highest", x.set(what, highest + 1), Check.INVALID);
        due("far less", x.set(what, Integer.MIN_VALUE), Check.INVALID);
        due("far more", x.set(what, Integer.MAX_VALUE), Check.INVALID);
        due("no change so far", x.count(8 + what), first);
        due("the lowest", x.set(what, lowest), first);
        due("it stands", x.count(8 + what), lowest);
        due("the highest", x.set(what, highest), lowest);
        due("it stands", x.count(8 + what), highest);
        due("the same again", x.set(what, highest), highest);
    }

    // ---- darkness()

    @Says("Returns the dark pages, as a double, divided by all pages printed so far; 1.0 without any.")
    static void darknessWithoutAnyPage() {
        DotToner x = new DotToner();
        Check.dueDouble("none", x.darkness(), 1.0);
        x.takeOut(0);
        x.print(0, 1);
        Check.dueDouble("a refused one", x.darkness(), 1.0);
    }

    @Says("Returns the dark pages, as a double, divided by all pages printed so far; 1.0 without any.")
    static void darknessOfOnlyDarkPages() {
        DotToner x = new DotToner();
        x.print(0, 1);
        x.print(1, 1);
        Check.dueDouble("all dark", x.darkness(), 1.0);
    }

    @Says("Returns the dark pages, as a double, divided by all pages printed so far; 1.0 without any.")
    static void darknessOfOnlyLightPages() {
        DotToner x = with(DotToner.DARK, 5);
        x.print(0, 999);
        x.print(0, 999);
        Check.dueDouble("one light, one refused", x.darkness(), 0.0);
    }

    @Says("Returns the dark pages, as a double, divided by all pages printed so far; 1.0 without any.")
    static void darknessOfBothPrintersTogether() {
        DotToner x = with(DotToner.DARK, 5);
        x.print(0, 999);
        x.print(1, 1);
        x.print(1, 1);
        Check.dueDouble("2 of 3", x.darkness(), 2.0 / 3.0);
        x.print(1, 999);
        Check.dueDouble("2 of 4, a light one of each", x.darkness(), 0.5);
    }
}
