import java.util.function.Consumer;
import java.util.function.ToIntFunction;

/** States that tests of edges begin with, and looks at all that an object tells. */
final class States {

    private States() {
    }

    /** So much at hand in the plain cup 0 of the printer 0 (0 to 900); DARK is 1, SETTLE is 50. */
    static DotToner atHand(int hand) {
        DotToner x = new DotToner();
        x.set(DotToner.DARK, 1);
        x.set(DotToner.SETTLE, 50);
        x.print(0, 999);
        // 2000 - 999 are 1001, of which 20 settle
        x.print(0, 981 - beforeSettling(hand));
        Check.due("made: at hand", x.cup(0, 1), hand);
        return x;
    }

    /** What is left by a page of which so much is at hand when a fiftieth has settled. */
    static int beforeSettling(int hand) {
        int left = hand;
        while (left - left / 50 < hand) {
            left++;
        }
        return left;
    }

    /** 125 at hand, 125 settled, so much on the chip (0 to 250) of the plain cup 0 in the printer 0; DARK is 1. */
    static DotToner onChip(int chip) {
        DotToner x = new DotToner();
        x.set(DotToner.DARK, 5);
        x.print(0, 400);
        x.shake(0);
        x.set(DotToner.DARK, 1);
        x.print(0, 999);
        x.print(0, 1);
        x.shake(0);
        x.print(0, 500);
        x.shake(0);
        x.print(0, 500 - chip);
        x.shake(0);
        Check.due("made: at hand", x.cup(0, 1), 125);
        Check.due("made: settled", x.cup(0, 2), 125);
        Check.due("made: chip", x.cup(0, 3), chip);
        return x;
    }

    /** So much toner in all (1 to 1001) in the plain cup 0 of the printer 0; DARK is 1, SETTLE is 50. */
    static DotToner inAll(int toner) {
        DotToner x = atHand(0);
        for (int page = 0; page < 40 && x.cup(0, 1) + x.cup(0, 2) > toner; page++) {
            if (x.cup(0, 1) == 0) {
                x.shake(0);
            }
            int tooMuch = x.cup(0, 1) + x.cup(0, 2) - toner;
            x.print(0, Math.min(999, Math.min(tooMuch, x.cup(0, 1))));
        }
        Check.due("made: in all", x.cup(0, 1) + x.cup(0, 2), toner);
        return x;
    }

    /** All numbers that the looks tell; 66 calls. */
    static long[] told(DotToner x) {
        long[] all = new long[66];
        int at = 0;
        for (int what = 0; what < 8; what++) {
            for (int cup = 0; cup < 4; cup++) {
                all[at++] = x.cup(cup, what);
            }
        }
        for (int what = 0; what < 6; what++) {
            all[at++] = x.printer(0, what);
            all[at++] = x.printer(1, what);
        }
        for (int what = 0; what < 14; what++) {
            all[at++] = x.count(what);
        }
        for (int what = 0; what < 4; what++) {
            all[at++] = x.why(what);
        }
        all[at++] = x.whyNot(0);
        all[at++] = x.whyNot(1);
        all[at++] = x.fault();
        all[at++] = Double.doubleToLongBits(x.darkness());
        Check.due("numbers told", at, all.length);
        return all;
    }

    static void dueSame(String when, DotToner x, DotToner y) {
        long[] got = told(x);
        long[] want = told(y);
        for (int i = 0; i < got.length; i++) {
            Check.due(when + ": number " + i + " of all", got[i], want[i]);
        }
    }

    /** The call answers so, and an object that it was made on goes on as one on which it was not. */
    static void changesNothing(Consumer<DotToner> lead, ToIntFunction<DotToner> call, int answer) {
        DotToner x = new DotToner();
        DotToner y = new DotToner();
        lead.accept(x);
        lead.accept(y);
        Check.due("the call", call.applyAsInt(x), answer);
        dueSame("then", x, y);
        Check.due("restore", x.restore(), y.restore());
        dueSame("restored", x, y);
        int states = y.count(13);
        for (int i = 0; i < states; i++) {
            Check.due("undo", x.undo(), y.undo());
            dueSame("undone", x, y);
        }
        Check.due("undo", x.undo(), y.undo());
    }
}
