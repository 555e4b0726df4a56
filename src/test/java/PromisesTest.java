/** The promises 1 to 25, each by ordinary inputs, edges that the document names, and wrong inputs. */
public final class PromisesTest {

    private static final int INVALID = -1;
    private static final int NOT_POSSIBLE = -2;
    private static final int LIMIT = -3;
    private static final int NOT_FOUND = -4;
    private static final int[] BAD_CUPS = {-1, 4, Integer.MIN_VALUE, Integer.MAX_VALUE};
    private static final int[] BAD_PRINTERS = {-1, 2, Integer.MIN_VALUE, Integer.MAX_VALUE};
    private static final int[] BAD_DOTS = {0, -1, 1000, Integer.MIN_VALUE, Integer.MAX_VALUE};

    public static void main(String[] args) {
        newObject();
        printDarkPages();
        printLightPages();
        printRefused();
        printCountsChip();
        printNothingNeeded();
        shake();
        move();
        takeOut();
        refill();
        set();
        appendAndClear();
        fault();
        run();
        runOfTwentyDeeds();
        why();
        cup();
        printer();
        needs();
        whyNot();
        count();
        darkness();
        lasts();
        lastsLong();
        atHand();
        bestFor();
        darkest();
        undo();
        historyKeepsFour();
        whatIsAChange();
        saveAndRestore();
        errorsChangeNothing();
        Check.finish();
    }

    private static void due(String call, long got, long want) {
        Check.due(call, got, want);
    }

    private static void newObject() {
        DotToner x = new DotToner();
        int[] kinds = {0, 1, 2, 0};
        int[] inside = {0, 1, NOT_FOUND, NOT_FOUND};
        for (int cup = 0; cup < 4; cup++) {
            due("1 kind", x.cup(cup, 0), kinds[cup]);
            due("1 at hand", x.cup(cup, 1), 2000);
            due("1 settled", x.cup(cup, 2), 2000);
            due("1 chip", x.cup(cup, 3), 4000);
            due("1 printer", x.cup(cup, 4), inside[cup]);
        }
        for (int printer = 0; printer < 2; printer++) {
            due("1 its cup", x.printer(printer, 0), printer);
            for (int what = 1; what <= 4; what++) {
                due("1 counts", x.printer(printer, what), 0);
            }
            due("1 latest", x.printer(printer, 5), NOT_FOUND);
        }
        int[] counts = {16000, 0, 0, 0, 0, 2, 16000, 0, 2, 10, 0, 50, 0, 0};
        for (int what = 0; what < counts.length; what++) {
            due("1 count " + what, x.count(what), counts[what]);
        }
        due("1 fault", x.fault(), 0);
        due("1 undo", x.undo(), NOT_POSSIBLE);
        due("1 restore", x.restore(), NOT_POSSIBLE);
        DotToner other = new DotToner();
        x.print(0, 100);
        due("1 of another object", other.cup(0, 1), 2000);
    }

    private static void printDarkPages() {
        DotToner x = new DotToner();
        due("2 dark", x.print(0, 100), 110);
        due("2 at hand", x.cup(0, 1), 1620);
        due("2 settled", x.cup(0, 2), 2180);
        due("2 thrifty", x.print(1, 101), 110);
        due("2 thrifty, 151 are used, 184 settle", x.cup(1, 1), 1665);
        due("2 thrifty settled", x.cup(1, 2), 2184);
        x.set(DotToner.SETTLE, 50);
        x.set(DotToner.DARK, 5);
        due("2 all that is at hand", x.print(0, 324), 110);
        due("2 none at hand", x.cup(0, 1), 0);
        due("2 nothing settles", x.cup(0, 2), 2180);
        for (int printer : BAD_PRINTERS) {
            due("2 wrong printer", x.print(printer, 1), INVALID);
        }
        for (int dots : BAD_DOTS) {
            due("2 wrong dots", x.print(0, dots), INVALID);
        }
        due("2 most dots", new DotToner().print(0, 999), 110);
        due("2 least dots", new DotToner().print(0, 1), 110);
    }

    private static void printLightPages() {
        DotToner x = new DotToner();
        x.set(DotToner.DARK, 5);
        x.set(DotToner.SETTLE, 50);
        due("2 light", x.print(0, 401), 10 + 99);
        due("2 light: all is used", x.cup(0, 1), 0);
        due("2 light: settled stays", x.cup(0, 2), 2000);
        due("2 light: the chip counts the whole page", x.cup(0, 3), 4000 - 2005);
        due("2 light: used", x.count(1), 2000);
        due("2 light: dots", x.printer(0, 4), 401);
        DotToner faint = new DotToner();
        faint.set(DotToner.SETTLE, 50);
        faint.print(0, 999);
        due("2 at hand", faint.cup(0, 1), 2);
        faint.set(DotToner.DARK, 5);
        due("2 hardly any", faint.print(0, 999), 10);
        due("2 hardly any: latest", faint.printer(0, 5), 0);
        due("2 hardly any: light", faint.printer(0, 2), 1);
    }

    private static void printRefused() {
        DotToner x = new DotToner();
        x.set(DotToner.DARK, 4);
        x.set(DotToner.SETTLE, 2);
        due("2 to the end", x.print(0, 500), 110);
        due("2 no toner", x.print(0, 1), 3);
        x.shake(0);
        due("2 half dark", x.print(0, 500), 10 + 50);
        due("2 chip at the end", x.cup(0, 3), 0);
        due("2 no toner, not strict", x.print(0, 1), 3);
        x.set(DotToner.STRICT, 1);
        due("2 chip before toner", x.print(0, 1), 2);
        x.set(DotToner.STRICT, 0);
        x.shake(0);
        due("2 chip 0 and not strict", x.print(0, 1), 110);
        x.set(DotToner.STRICT, 1);
        due("2 chip 0 and strict", x.print(0, 1), 2);
        x.takeOut(0);
        due("2 no cup", x.print(0, 1), 1);
        due("2 refused", x.printer(0, 3), 5);
        due("2 printed", x.count(4), 3);
        due("2 latest stays", x.printer(0, 5), 100);
        due("2 refused uses nothing", x.count(1), 2000 + 1000 + 4);
    }

    private static void printCountsChip() {
        DotToner x = new DotToner();
        x.move(2, 0);
        x.set(DotToner.SETTLE, 50);
        x.print(0, 101);
        due("2 refilled cup: used", x.count(1), 227);
        due("2 refilled cup: chip", x.cup(2, 3), 4000 - 202);
        x.print(1, 101);
        due("2 thrifty cup: chip", x.cup(1, 3), 4000 - 151);
    }

    private static void printNothingNeeded() {
        DotToner x = new DotToner();
        x.set(DotToner.DARK, 1);
        due("2 a page that needs nothing", x.print(1, 1), 110);
        due("2 its toner settles", x.cup(1, 1), 1800);
        due("2 its chip", x.cup(1, 3), 4000);
        due("2 nothing is used", x.count(1), 0);
    }

    private static void shake() {
        DotToner x = new DotToner();
        due("3", x.shake(3), 1000);
        due("3 at hand", x.cup(3, 1), 3000);
        due("3 settled", x.cup(3, 2), 1000);
        int[] ups = {500, 250, 125, 62, 31, 16, 8, 4, 2, 1, 0, 0};
        for (int up : ups) {
            due("3 again", x.shake(3), up);
        }
        due("3 one stays", x.cup(3, 2), 1);
        due("3 all at hand", x.cup(3, 1), 3999);
        for (int cup : BAD_CUPS) {
            due("3 wrong cup", x.shake(cup), INVALID);
        }
    }

    private static void move() {
        DotToner x = new DotToner();
        due("4 where it is", x.move(0, 0), 0);
        due("4 over a cup", x.move(2, 0), 40);
        due("4 the cup that was in", x.cup(0, 4), NOT_FOUND);
        due("4 it spills", x.cup(0, 1), 1960);
        due("4 what comes in does not", x.cup(2, 1), 2000);
        due("4 from printer to printer", x.move(2, 1), 80);
        due("4 both spill: 2", x.cup(2, 1), 1960);
        due("4 both spill: 1", x.cup(1, 1), 1960);
        due("4 the first has none", x.printer(0, 0), NOT_FOUND);
        due("4 the second has it", x.printer(1, 0), 2);
        due("4 into the one without", x.move(2, 0), 39);
        due("4 left behind", x.printer(1, 0), NOT_FOUND);
        due("4 settled stays", x.cup(2, 2), 2000);
        due("4 from nowhere to nowhere", x.move(3, 1), 0);
        due("4 spilt", x.count(2), 159);
        for (int cup : BAD_CUPS) {
            due("4 wrong cup", x.move(cup, 0), INVALID);
        }
        for (int printer : BAD_PRINTERS) {
            due("4 wrong printer", x.move(0, printer), INVALID);
        }
    }

    private static void takeOut() {
        DotToner x = new DotToner();
        due("5", x.takeOut(1), 1);
        due("5 it spills", x.cup(1, 1), 1960);
        due("5 spilt", x.count(2), 40);
        due("5 twice", x.takeOut(1), NOT_POSSIBLE);
        due("5 none in it", x.printer(1, 0), NOT_FOUND);
        for (int printer : BAD_PRINTERS) {
            due("5 wrong printer", x.takeOut(printer), INVALID);
        }
    }

    private static void refill() {
        DotToner x = new DotToner();
        due("6 some", x.refill(3, 1), 1);
        due("6 settled", x.cup(3, 2), 2001);
        due("6 at hand", x.cup(3, 1), 2000);
        due("6 kind", x.cup(3, 0), 2);
        due("6 chip", x.cup(3, 3), 4000);
        due("6 up to 6000", x.refill(3, 6000), 1999);
        due("6 full", x.refill(3, 1), LIMIT);
        due("6 in a printer", x.refill(0, 1), NOT_POSSIBLE);
        due("6 sum", x.count(3), 2000);
        x.move(3, 1);
        due("6 full and in a printer", x.refill(3, 1), NOT_POSSIBLE);
        due("6 thrifty", x.refill(1, 1), 1);
        due("6 thrifty no more", x.cup(1, 0), 2);
        for (int cup : BAD_CUPS) {
            due("6 wrong cup", x.refill(cup, 1), INVALID);
        }
        for (int toner : new int[] {0, -1, 6001, Integer.MIN_VALUE, Integer.MAX_VALUE}) {
            due("6 wrong toner", x.refill(2, toner), INVALID);
            due("6 wrong toner, in a printer", x.refill(0, toner), INVALID);
        }
    }

    private static void set() {
        int[] first = {2, 10, 0, 50};
        int[] low = {1, 2, 0, 1};
        int[] high = {5, 50, 1, 500};
        DotToner x = new DotToner();
        for (int what = 0; what < 4; what++) {
            due("7 below", x.set(what, low[what] - 1), INVALID);
            due("7 above", x.set(what, high[what] + 1), INVALID);
            due("7 lowest", x.set(what, low[what]), first[what]);
            due("7 highest", x.set(what, high[what]), low[what]);
            due("7 stands", x.count(8 + what), high[what]);
            due("7 far below", x.set(what, Integer.MIN_VALUE), INVALID);
            due("7 far above", x.set(what, Integer.MAX_VALUE), INVALID);
        }
        due("7 no such", x.set(-1, 1), INVALID);
        due("7 no such", x.set(4, 1), INVALID);
        due("7 no such", x.set(Integer.MAX_VALUE, 1), INVALID);
    }

    private static void appendAndClear() {
        DotToner x = new DotToner();
        for (int code : new int[] {32, 127, 0, -1, 65536 + 65, Integer.MIN_VALUE, Integer.MAX_VALUE}) {
            due("8 wrong", x.append(code), INVALID);
        }
        due("8 lowest", x.append(33), 1);
        due("8 highest", x.append(126), 2);
        for (int length = 3; length <= 60; length++) {
            due("8", x.append('s'), length);
        }
        due("8 full", x.append('s'), LIMIT);
        due("8 full and wrong", x.append(32), INVALID);
        due("8 length", x.count(12), 60);
        due("9", x.clear(), 60);
        due("9 twice", x.clear(), 0);
        due("9 no change", x.count(13), 0);
        due("8 from anew", x.append('s'), 1);
    }

    private static void fault() {
        Object[][] texts = {
            {"p0:1", NOT_FOUND}, {"p1:999x50", NOT_FOUND}, {"s3", NOT_FOUND}, {"m3>1", NOT_FOUND},
            {"s0;s0;s0", NOT_FOUND}, {"p0:1x2", NOT_FOUND}, {"p0:1x10", NOT_FOUND}, {"p", 1}, {"p0", 2},
            {"p0:", 3}, {"p0:1x", 5}, {"p0:1x1", 6}, {"p0:1x1;", 6}, {"p0:1x51", 6}, {"p0:1x60", 6},
            {"p0:1x100", 7}, {"p0:1x0", 5}, {"p0:0", 3}, {"p0:01", 3}, {"p0:1000", 6}, {"p2:1", 1}, {"p-1", 1},
            {"s4", 1}, {"m4>0", 1}, {"m0>2", 3}, {"m0", 2}, {"m0>", 3}, {"m0:0", 2}, {"s0;", 3}, {";s0", 0},
            {"s0;;", 3}, {"s00", 2}, {"P0:1", 0}, {"x", 0}, {"p0:1x2x2", 6}, {"s0x2", 2}, {"p0:1;q", 5}
        };
        for (Object[] text : texts) {
            DotToner x = new DotToner();
            Check.write(x, (String) text[0]);
            due("10 " + text[0], x.fault(), (Integer) text[1]);
            due("10 the pad stays", x.count(12), ((String) text[0]).length());
        }
    }

    private static void run() {
        DotToner x = new DotToner();
        due("11", Check.runText(x, "p0:100x3;s0;m2>1;p1:10"), 4);
        due("11 empties the pad", x.count(12), 0);
        due("11 one change", x.count(13), 1);
        due("11 printed by 0", x.printer(0, 1), 3);
        due("11 printed by 1", x.printer(1, 1), 1);
        due("11 shaken", x.cup(0, 2), 1215);
        due("11 moved", x.cup(2, 4), 1);
        due("11 light pages are printed", Check.runText(new DotToner(), "p0:999x2"), 2);
        due("11 empty", x.run(), NOT_POSSIBLE);
        due("11 not complete", Check.runText(x, "p0:1;"), NOT_POSSIBLE);
        due("11 the pad stays", x.clear(), 5);
        due("11 wrong", Check.runText(x, "p0:1;s4"), NOT_POSSIBLE);
        due("11 nothing is done", x.printer(0, 1), 3);
        due("11 no change", x.count(13), 1);
        due("11 undone as one", x.undo(), 0);
        due("11 undone", x.cup(0, 1), 2000);
        due("11 the pad stays", x.clear(), 7);
        due("11 without pages", Check.runText(x, "s0"), 0);
        x.takeOut(0);
        due("11 none is done", Check.runText(x, "p0:1;p1:1;m0>0;s1"), 0);
        due("11 none is done, a change", x.count(13), 3);
        due("11 refused is counted", x.printer(0, 3), 1);
        due("11 nothing behind it", x.printer(1, 1), 0);
        due("11 nothing behind it", x.printer(0, 0), NOT_FOUND);
        due("11 the pad is emptied", x.count(12), 0);
    }

    private static void runOfTwentyDeeds() {
        DotToner x = new DotToner();
        due("11 twenty deeds", Check.runText(x, "s3;".repeat(18) + "p0:1;"), NOT_POSSIBLE);
        due("11 twenty deeds", Check.runText(x, "s3;".repeat(19) + "s0"), 0);
        due("11 the last one", x.cup(0, 1), 3000);
        due("11 many pages", Check.runText(x, "p0:1x50;p0:1x50;p1:1x50;p1:1x50;p1:2x50;p1:3x50"), 51);
    }

    private static void why() {
        DotToner x = new DotToner();
        whyDue(x, NOT_FOUND, NOT_FOUND, NOT_FOUND, NOT_FOUND);
        Check.runText(x, "s0;m2>1;p0:999x50;s0");
        whyDue(x, 3, 2, 8, 2);
        due("12 a fault leaves it", Check.runText(x, "p"), NOT_POSSIBLE);
        whyDue(x, 3, 2, 8, 2);
        due("12 it is not undone", x.undo(), 0);
        whyDue(x, 3, 2, 8, 2);
        x.print(0, 1);
        x.save();
        x.takeOut(0);
        Check.runText(x, "p0:1");
        whyDue(x, 1, 0, 0, 0);
        x.restore();
        whyDue(x, 1, 0, 0, 0);
        Check.runText(x, "p0:1");
        whyDue(x, NOT_FOUND, NOT_FOUND, NOT_FOUND, NOT_FOUND);
        for (int what : new int[] {-1, 4, Integer.MIN_VALUE, Integer.MAX_VALUE}) {
            due("12 wrong", x.why(what), INVALID);
        }
        x.set(DotToner.STRICT, 1);
        x.set(DotToner.DARK, 5);
        Check.runText(x, "s0;p0:998x4");
        whyDue(x, 2, 1, 3, 1);
    }

    private static void whyDue(DotToner x, int reason, int deed, int place, int pages) {
        due("12 reason", x.why(0), reason);
        due("12 deed", x.why(1), deed);
        due("12 place", x.why(2), place);
        due("12 pages", x.why(3), pages);
    }

    private static void cup() {
        DotToner x = new DotToner();
        x.print(1, 101);
        int[] dues = {1, 1665, 2184, 3849, 1, 3800, 3824, 99975};
        for (int what = 0; what < dues.length; what++) {
            due("13 what " + what, x.cup(1, what), dues[what]);
        }
        x.set(DotToner.SCALE, 500);
        due("13 scale", x.cup(1, 5), 3500);
        x.set(DotToner.SCALE, 1);
        due("13 scale", x.cup(1, 5), 3849);
        due("13 exactly", x.cup(1, 7), 100000);
        due("13 in none", x.cup(2, 4), NOT_FOUND);
        for (int cup : BAD_CUPS) {
            due("13 wrong cup", x.cup(cup, 0), INVALID);
        }
        for (int what : new int[] {-1, 8, Integer.MIN_VALUE, Integer.MAX_VALUE}) {
            due("13 wrong what", x.cup(0, what), INVALID);
        }
    }

    private static void printer() {
        DotToner x = new DotToner();
        x.print(1, 999);
        x.print(1, 999);
        x.print(1, 7);
        int[] dues = {1, 1, 1, 1, 1998, 30};
        for (int what = 0; what < dues.length; what++) {
            due("14 what " + what, x.printer(1, what), dues[what]);
        }
        due("14 the other one", x.printer(0, 3), 0);
        due("14 the other one", x.printer(0, 5), NOT_FOUND);
        x.takeOut(1);
        due("14 without a cup", x.printer(1, 0), NOT_FOUND);
        for (int printer : BAD_PRINTERS) {
            due("14 wrong printer", x.printer(printer, 0), INVALID);
        }
        for (int what : new int[] {-1, 6, Integer.MIN_VALUE, Integer.MAX_VALUE}) {
            due("14 wrong what", x.printer(0, what), INVALID);
        }
    }

    private static void needs() {
        DotToner x = new DotToner();
        x.set(DotToner.DARK, 1);
        int[][] dues = {{7, 7}, {5, 5}, {7, 7}, {7, 7}};
        for (int cup = 0; cup < 4; cup++) {
            due("15 toner", x.needs(cup, 7, 0), dues[cup][0]);
            due("15 chip", x.needs(cup, 7, 1), dues[cup][1]);
        }
        due("15 nothing", x.needs(1, 1, 0), 0);
        x.set(DotToner.DARK, 5);
        due("15 plain", x.needs(0, 999, 0), 4995);
        due("15 thrifty", x.needs(1, 999, 0), 3746);
        due("15 thrifty chip", x.needs(1, 999, 1), 3746);
        due("15 refilled", x.needs(2, 999, 0), 5619);
        due("15 refilled chip", x.needs(2, 999, 1), 4995);
        for (int cup : BAD_CUPS) {
            due("15 wrong cup", x.needs(cup, 1, 0), INVALID);
        }
        for (int dots : BAD_DOTS) {
            due("15 wrong dots", x.needs(0, dots, 0), INVALID);
        }
        due("15 wrong what", x.needs(0, 1, 2), INVALID);
        due("15 wrong what", x.needs(0, 1, -1), INVALID);
    }

    private static void whyNot() {
        DotToner x = new DotToner();
        due("16 none", x.whyNot(0), 0);
        x.print(0, 999);
        x.print(0, 999);
        due("16 no toner", x.whyNot(0), 3);
        x.set(DotToner.DARK, 5);
        x.shake(0);
        x.print(0, 999);
        x.set(DotToner.STRICT, 1);
        due("16 chip", x.whyNot(0), 2);
        x.takeOut(0);
        due("16 no cup", x.whyNot(0), 1);
        due("16 it is not counted", x.printer(0, 3), 0);
        for (int printer : BAD_PRINTERS) {
            due("16 wrong printer", x.whyNot(printer), INVALID);
        }
    }

    private static void count() {
        DotToner x = new DotToner();
        x.print(1, 101);
        x.print(0, 999);
        x.print(0, 999);
        x.refill(3, 77);
        x.takeOut(1);
        x.append('s');
        // cup 0: 0 + 2000, chip 4; cup 1: 1632 + 2184, chip 3849; cup 3: 2000 + 2077
        int[] dues = {2000 + 3816 + 4000 + 4077, 151 + 1998 + 2, 33, 77, 3, 1,
            (2000 + 4) / 2 + (3800 + 3849) / 2 + 4000 + (4050 + 4000) / 2, 1, 2, 10, 0, 50, 1, 4};
        for (int what = 0; what < dues.length; what++) {
            due("17 what " + what, x.count(what), dues[what]);
        }
        for (int what : new int[] {-1, 14, Integer.MIN_VALUE, Integer.MAX_VALUE}) {
            due("17 wrong what", x.count(what), INVALID);
        }
    }

    private static void darkness() {
        DotToner x = new DotToner();
        Check.dueDouble("18 without any", x.darkness(), 1.0);
        x.print(0, 999);
        x.print(0, 999);
        x.print(0, 999);
        Check.dueDouble("18 half", x.darkness(), 0.5);
        x.print(1, 1);
        Check.dueDouble("18 of both", x.darkness(), 2.0 / 3.0);
        DotToner light = new DotToner();
        light.set(DotToner.DARK, 5);
        light.print(0, 999);
        Check.dueDouble("18 none dark", light.darkness(), 0.0);
    }

    private static void lasts() {
        DotToner x = new DotToner();
        x.set(DotToner.DARK, 5);
        // 2000 -> 1350 -> 765 -> 239; shaken it has 1130 more
        due("19", x.lasts(0, 100, false), 3);
        due("19 shaking", x.lasts(0, 100, true), 7);
        due("19 exactly all", x.lasts(0, 400, false), 1);
        due("19 one too many", x.lasts(0, 401, false), 0);
        due("19 shaken at once", x.lasts(0, 600, true), 1);
        due("19 shaking is not enough", x.lasts(0, 601, true), 0);
        due("19 in no printer", x.lasts(3, 100, false), 3);
        due("19 nothing is changed", x.cup(0, 1), 2000);
        x.set(DotToner.STRICT, 1);
        x.print(0, 400);
        x.shake(0);
        x.print(0, 400);
        due("19 chip", x.whyNot(0), 2);
        due("19 light now", x.lasts(0, 100, false), 0);
        due("19 whatever the chip", x.lasts(0, 100, true), 1);
        for (int cup : BAD_CUPS) {
            due("19 wrong cup", x.lasts(cup, 1, true), INVALID);
        }
        for (int dots : BAD_DOTS) {
            due("19 wrong dots", x.lasts(0, dots, false), INVALID);
        }
    }

    private static void lastsLong() {
        DotToner x = new DotToner();
        x.set(DotToner.DARK, 1);
        x.set(DotToner.SETTLE, 50);
        due("19 at most 999", x.lasts(0, 1, true), 999);
        due("19 needs nothing", x.lasts(1, 1, false), 999);
        x.set(DotToner.SETTLE, 2);
        due("19 halved", x.lasts(0, 1, false), 11);
        due("19 needs nothing, one stays", x.lasts(1, 1, false), 999);
        x.set(DotToner.DARK, 4);
        x.print(1, 667);
        x.print(1, 667);
        x.set(DotToner.DARK, 1);
        due("19 nothing at hand", x.cup(1, 1), 0);
        due("19 needs nothing, but none is at hand", x.lasts(1, 1, false), 0);
        due("19 the same shaken", x.lasts(1, 1, true), 999);
    }

    private static void atHand() {
        DotToner x = new DotToner();
        x.set(DotToner.DARK, 5);
        int[] dues = {2000, 1350, 765, 239, NOT_FOUND, NOT_FOUND};
        for (int way = 0; way < 2; way++) {
            for (int pages = 0; pages < dues.length; pages++) {
                due("20 way " + way, x.atHand(0, 100, pages, way), dues[pages]);
            }
            due("20 most pages", x.atHand(0, 100, 50, way), NOT_FOUND);
            due("20 all used", x.atHand(0, 400, 1, way), 0);
        }
        x.set(DotToner.DARK, 1);
        x.set(DotToner.SETTLE, 50);
        due("20 both the same", x.atHand(3, 7, 50, 0), x.atHand(3, 7, 50, 1));
        for (int cup : BAD_CUPS) {
            due("20 wrong cup", x.atHand(cup, 1, 1, 0), INVALID);
        }
        for (int dots : BAD_DOTS) {
            due("20 wrong dots", x.atHand(0, dots, 1, 0), INVALID);
        }
        for (int pages : new int[] {-1, 51, Integer.MIN_VALUE, Integer.MAX_VALUE}) {
            due("20 wrong pages", x.atHand(0, 1, pages, 0), INVALID);
        }
        due("20 wrong way", x.atHand(0, 1, 1, -1), INVALID);
        due("20 wrong way", x.atHand(0, 1, 1, 2), INVALID);
        x.print(0, 999);
        x.print(0, 999);
        x.print(0, 999);
        due("20 none at hand, no pages", x.atHand(0, 1, 0, 1), x.cup(0, 1));
    }

    private static void bestFor() {
        DotToner x = new DotToner();
        due("21 all alike", x.bestFor(1, 1), 0);
        x.takeOut(1);
        due("21 least toner", x.bestFor(1, 1), 1);
        x.set(DotToner.DARK, 5);
        due("21 least toner of those that last", x.bestFor(600, 1), 1);
        due("21 only the thrifty one", x.bestFor(601, 1), 1);
        due("21 none", x.bestFor(999, 1), NOT_FOUND);
        due("21 with shaking", x.bestFor(100, 7), 1);
        x.refill(1, 2000);
        due("21 without the full one", x.bestFor(100, 6), 0);
        for (int dots : BAD_DOTS) {
            due("21 wrong dots", x.bestFor(dots, 1), INVALID);
        }
        for (int pages : new int[] {0, -1, 51, Integer.MIN_VALUE, Integer.MAX_VALUE}) {
            due("21 wrong pages", x.bestFor(1, pages), INVALID);
        }
        due("21 most pages", x.bestFor(1, 50), 0);
    }

    private static void darkest() {
        DotToner x = new DotToner();
        due("22 whatever DARK is", x.darkest(0, 1, 1), 5);
        // shaken it has 3000
        due("22 exactly", x.darkest(0, 600, 1), 5);
        due("22 one dot more", x.darkest(0, 601, 1), 4);
        due("22 thrifty", x.darkest(1, 999, 1), 4);
        due("22 refilled", x.darkest(2, 889, 1), 3);
        due("22 refilled", x.darkest(2, 890, 1), 2);
        // 2000 -> 901, shaken 1951 -> 857, shaken 1429 -> 387, shaken 695
        due("22 the least", x.darkest(0, 999, 3), 1);
        due("22 none", x.darkest(0, 999, 4), NOT_FOUND);
        due("22 nothing is changed", x.count(8), 2);
        due("22 for 7 pages", x.darkest(0, 100, 7), 5);
        due("22 for 8 pages", x.darkest(0, 100, 8), 4);
        for (int cup : BAD_CUPS) {
            due("22 wrong cup", x.darkest(cup, 1, 1), INVALID);
        }
        for (int dots : BAD_DOTS) {
            due("22 wrong dots", x.darkest(0, dots, 1), INVALID);
        }
        for (int pages : new int[] {0, -1, 51, Integer.MIN_VALUE, Integer.MAX_VALUE}) {
            due("22 wrong pages", x.darkest(0, 1, pages), INVALID);
        }
    }

    private static void undo() {
        DotToner x = new DotToner();
        x.set(DotToner.DARK, 5);
        x.print(0, 100);
        x.move(2, 1);
        x.takeOut(0);
        x.append('p');
        due("23", x.undo(), 3);
        due("23 the cup is back", x.printer(0, 0), 0);
        due("23 spilt", x.count(2), 40);
        due("23", x.undo(), 2);
        due("23 moved back", x.printer(1, 0), 1);
        due("23 not spilt", x.cup(1, 1), 2000);
        due("23", x.undo(), 1);
        due("23 not printed", x.count(4), 0);
        due("23 no latest page", x.printer(0, 5), NOT_FOUND);
        due("23 chip", x.cup(0, 3), 4000);
        due("23", x.undo(), 0);
        due("23 setting", x.count(8), 2);
        due("23 the pad stays", x.count(12), 1);
        due("23 none", x.undo(), NOT_POSSIBLE);
        x.refill(3, 5);
        due("23 refilled", x.undo(), 0);
        due("23 kind", x.cup(3, 0), 0);
        due("23 refilled", x.count(3), 0);
    }

    private static void historyKeepsFour() {
        DotToner x = new DotToner();
        for (int change = 1; change <= 7; change++) {
            x.set(DotToner.SCALE, change);
            due("23 at most 4", x.count(13), Math.min(change, 4));
        }
        for (int left = 3; left >= 0; left--) {
            due("23 back", x.undo(), left);
            due("23 back to", x.count(11), left + 3);
        }
        due("23 the older ones are dropped", x.undo(), NOT_POSSIBLE);
        x.set(DotToner.SCALE, 100);
        x.set(DotToner.SCALE, 200);
        due("23 again", x.undo(), 1);
        due("23 again", x.count(11), 100);
    }

    private static void whatIsAChange() {
        DotToner x = new DotToner();
        x.move(0, 0);
        due("23 a move to where it is", x.count(13), 1);
        x.undo();
        x.set(DotToner.DARK, 2);
        due("23 the same value", x.count(13), 1);
        x.undo();
        x.takeOut(0);
        x.print(0, 1);
        due("23 a refused page", x.count(13), 2);
        x.undo();
        due("23 is not counted then", x.printer(0, 3), 0);
        x.undo();
        x.save();
        x.append('s');
        x.append('1');
        x.fault();
        due("23 no change", x.count(13), 0);
        x.run();
        due("23 a run", x.count(13), 1);
        x.restore();
        due("23 restore", x.count(13), 2);
        x.undo();
        due("23 restore is undone", x.cup(1, 1), 3000);
        x.shake(1);
        x.refill(2, 1);
        due("23 shake, refill", x.count(13), 3);
    }

    private static void saveAndRestore() {
        DotToner x = new DotToner();
        due("25 none", x.restore(), NOT_POSSIBLE);
        x.print(0, 100);
        due("24", x.save(), 15800);
        x.set(DotToner.SETTLE, 20);
        x.print(1, 100);
        x.move(1, 0);
        x.append('s');
        due("25", x.restore(), 15800);
        due("25 setting", x.count(9), 10);
        due("25 cups", x.printer(0, 0), 0);
        due("25 spilt", x.count(2), 0);
        due("25 printed", x.count(4), 1);
        due("25 latest", x.printer(0, 5), 100);
        due("25 the pad stays", x.count(12), 1);
        due("25 the history stays", x.count(13), 4);
        x.refill(3, 100);
        due("25 it stays", x.restore(), 15800);
        due("25 it stays", x.cup(3, 0), 0);
        due("25 undone", x.undo(), 3);
        due("25 undone", x.count(0), 15900);
        due("24 in place of the one that was", x.save(), 15900);
        x.undo();
        due("25 undo leaves the snapshot", x.restore(), 15900);
        due("25 undo leaves the snapshot", x.cup(3, 0), 2);
        x.print(0, 100);
        due("25 changes leave the snapshot", x.restore(), 15900);
    }

    private static void errorsChangeNothing() {
        DotToner x = new DotToner();
        x.refill(2, 6000);
        x.takeOut(0);
        x.append('p');
        int before = x.count(13);
        x.print(2, 1);
        x.print(0, 0);
        x.shake(4);
        x.move(4, 0);
        x.move(0, 2);
        x.takeOut(0);
        x.takeOut(2);
        x.refill(1, 1);
        x.refill(2, 1);
        x.refill(2, 0);
        x.set(0, 6);
        x.append(32);
        x.run();
        x.restore();
        due("an error is no change", x.count(13), before);
        due("an error leaves the pad", x.count(12), 1);
        due("an error leaves the toner", x.count(0), 17960);
        due("an error leaves the cups", x.count(5), 1);
        due("an error is no refused page", x.printer(0, 3), 0);
    }
}
