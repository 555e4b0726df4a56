import java.util.function.Consumer;
import java.util.function.ToIntFunction;

/** Edges that the document names under "Changes and errors", and in the promises 23 to 25: undo, save, restore. */
public final class EdgesOfChangesTest {

    public static void main(String[] args) {
        Check.runAll(EdgesOfChangesTest.class);
        Check.finish();
    }

    private static void due(String call, long got, long want) {
        Check.due(call, got, want);
    }

    /** The call is recorded: one state more, which undo() brings back, all of it. */
    private static void isChange(Consumer<DotToner> lead, ToIntFunction<DotToner> call, int answer) {
        DotToner x = new DotToner();
        DotToner y = new DotToner();
        lead.accept(x);
        lead.accept(y);
        int states = y.count(13);
        due("the call", call.applyAsInt(x), answer);
        due("states then", x.count(13), states + 1);
        due("undo", x.undo(), states);
        x.clear();
        y.clear();
        States.dueSame("undone", x, y);
    }

    private static void nothing(DotToner x) {
        due("a new one", x.count(13), 0);
    }

    /** Fills the history, the snapshot, the pad and why(); two states differ from the snapshot. */
    private static void lived(DotToner x) {
        x.shake(2);
        x.save();
        x.takeOut(0);
        Check.runText(x, "p1:50;p0:1");
        x.refill(2, 6000);
        x.append('p');
    }

    // ---- what is a change

    @Says("The changes are the calls of print, shake, move, takeOut, refill, set, run and restore that return no error;")
    static void printIsAChange() {
        isChange(EdgesOfChangesTest::nothing, x -> x.print(1, 999), 110);
        isChange(x -> x.set(DotToner.DARK, 5), x -> x.print(0, 500), 90);
    }

    @Says("a page that is refused for a reason is one, too (it is counted).")
    static void aRefusedPageIsAChange() {
        isChange(x -> x.takeOut(0), x -> x.print(0, 1), 1);
        DotToner x = new DotToner();
        x.takeOut(0);
        x.print(0, 1);
        due("it is counted", x.printer(0, 3), 1);
        due("states", x.count(13), 2);
    }

    @Says("The changes are the calls of print, shake, move, takeOut, refill, set, run and restore that return no error;")
    static void shakeIsAChange() {
        isChange(EdgesOfChangesTest::nothing, x -> x.shake(3), 1000);
    }

    @Says("The changes are the calls of print, shake, move, takeOut, refill, set, run and restore that return no error;")
    static void moveIsAChange() {
        isChange(EdgesOfChangesTest::nothing, x -> x.move(1, 0), 80);
    }

    @Says("The changes are the calls of print, shake, move, takeOut, refill, set, run and restore that return no error;")
    static void takeOutIsAChange() {
        isChange(EdgesOfChangesTest::nothing, x -> x.takeOut(1), 1);
    }

    @Says("The changes are the calls of print, shake, move, takeOut, refill, set, run and restore that return no error;")
    static void refillIsAChange() {
        isChange(EdgesOfChangesTest::nothing, x -> x.refill(3, 1), 1);
    }

    @Says("The changes are the calls of print, shake, move, takeOut, refill, set, run and restore that return no error;")
    static void setIsAChange() {
        isChange(EdgesOfChangesTest::nothing, x -> x.set(DotToner.DARK, 1), 2);
        isChange(EdgesOfChangesTest::nothing, x -> x.set(DotToner.SETTLE, 50), 10);
        isChange(EdgesOfChangesTest::nothing, x -> x.set(DotToner.STRICT, 1), 0);
        isChange(EdgesOfChangesTest::nothing, x -> x.set(DotToner.SCALE, 1), 50);
    }

    @Says("The changes are the calls of print, shake, move, takeOut, refill, set, run and restore that return no error;")
    static void runIsAChange() {
        isChange(x -> Check.write(x, "p0:1x3;s1;m3>0"), DotToner::run, 3);
    }

    @Says("The changes are the calls of print, shake, move, takeOut, refill, set, run and restore that return no error;")
    static void restoreIsAChange() {
        isChange(x -> {
            x.save();
            x.refill(3, 10);
            x.print(0, 9);
        }, DotToner::restore, 16000);
    }

    @Says("The changes are the calls of print, shake, move, takeOut, refill, set, run and restore that return no error;")
    static void textsAreNoChanges() {
        DotToner x = new DotToner();
        x.append('s');
        x.append('0');
        due("fault", x.fault(), Check.NOT_FOUND);
        due("clear", x.clear(), 2);
        due("states", x.count(13), 0);
    }

    @Says("The changes are the calls of print, shake, move, takeOut, refill, set, run and restore that return no error;")
    static void saveIsNoChange() {
        DotToner x = new DotToner();
        due("save", x.save(), 16000);
        due("states", x.count(13), 0);
        due("undo", x.undo(), Check.NOT_POSSIBLE);
    }

    @Says("The changes are the calls of print, shake, move, takeOut, refill, set, run and restore that return no error;")
    static void undoIsNoChange() {
        DotToner x = new DotToner();
        x.shake(0);
        x.shake(1);
        due("undo", x.undo(), 1);
        due("states", x.count(13), 1);
        due("undo", x.undo(), 0);
        due("undo", x.undo(), Check.NOT_POSSIBLE);
        due("shaken", x.cup(0, 2), 2000);
    }

    @Says("(also if nothing is different then)")
    static void changesThatMakeNothingDifferent() {
        isChange(EdgesOfChangesTest::nothing, x -> x.move(0, 0), 0);
        isChange(EdgesOfChangesTest::nothing, x -> x.set(DotToner.DARK, 2), 2);
        isChange(DotToner::save, DotToner::restore, 16000);
        isChange(x -> Check.write(x, "m1>1"), DotToner::run, 0);
    }

    @Says("(also if nothing is different then)")
    static void aShakeOfNothingIsAChange() {
        DotToner x = new DotToner();
        for (int i = 0; i < 11; i++) {
            x.shake(3);
        }
        x.undo();
        due("states", x.count(13), 3);
        x.shake(3);
        due("nothing comes", x.shake(3), 0);
        due("states", x.count(13), 4);
        due("undo", x.undo(), 3);
        due("settled", x.cup(3, 2), 1);
        due("undo", x.undo(), 2);
        due("settled", x.cup(3, 2), 2);
    }

    // ---- the history

    @Says("A history of at most 4 states is kept:")
    static void theHistoryIsEmptyAtFirst() {
        DotToner x = new DotToner();
        due("states", x.count(13), 0);
        due("undo", x.undo(), Check.NOT_POSSIBLE);
    }

    @Says("A history of at most 4 states is kept:")
    static void theHistoryHolds4() {
        DotToner x = new DotToner();
        int[] dues = {1, 2, 3, 4, 4, 4, 4, 4, 4};
        for (int i = 0; i < dues.length; i++) {
            x.set(DotToner.SCALE, i + 1);
            due("states behind " + (i + 1), x.count(13), dues[i]);
        }
    }

    @Says("and if there are 5 states then, the oldest one is dropped.")
    static void fourChangesAreAllUndone() {
        DotToner x = new DotToner();
        for (int i = 1; i <= 4; i++) {
            x.set(DotToner.SCALE, i);
        }
        for (int left = 3; left >= 0; left--) {
            due("undo", x.undo(), left);
        }
        due("the first value", x.count(11), 50);
        due("undo", x.undo(), Check.NOT_POSSIBLE);
    }

    @Says("and if there are 5 states then, the oldest one is dropped.")
    static void ofFiveChangesTheFirstIsNotUndone() {
        DotToner x = new DotToner();
        for (int i = 1; i <= 5; i++) {
            x.set(DotToner.SCALE, i);
        }
        for (int left = 3; left >= 0; left--) {
            due("undo", x.undo(), left);
            due("back to", x.count(11), left + 1);
        }
        due("undo", x.undo(), Check.NOT_POSSIBLE);
        due("the first change stands", x.count(11), 1);
    }

    @Says("and if there are 5 states then, the oldest one is dropped.")
    static void theHistoryGoesRoundAndRound() {
        DotToner x = new DotToner();
        int[] values = new int[200];
        int made = 0;
        int states = 0;
        values[0] = 50;
        for (int round = 1; round <= 12; round++) {
            for (int i = 0; i < round % 7 + 1; i++) {
                made++;
                values[made] = 100 + 10 * round + i;
                x.set(DotToner.SCALE, values[made]);
                states = Math.min(states + 1, 4);
            }
            for (int i = 0; i < round % 4 && states > 0; i++) {
                made--;
                states--;
                due("undo in round " + round, x.undo(), states);
                due("back to in round " + round, x.count(11), values[made]);
            }
            due("states in round " + round, x.count(13), states);
        }
    }

    @Says("each change records everything before it but the pad, the snapshot and why()")
    static void theEarliestPageIsUndone() {
        DotToner x = new DotToner();
        x.print(0, 5);
        due("its darkness", x.printer(0, 5), 100);
        x.undo();
        due("no latest page", x.printer(0, 5), Check.NOT_FOUND);
        due("dots", x.printer(0, 4), 0);
        Check.dueDouble("darkness", x.darkness(), 1.0);
    }

    @Says("Undoes the latest change: everything but the pad, the snapshot and why() is as it was before it.")
    static void undoLeavesThePad() {
        DotToner x = new DotToner();
        x.shake(0);
        Check.write(x, "p0:1");
        due("undo", x.undo(), 0);
        due("length", x.count(12), 4);
        due("fault", x.fault(), Check.NOT_FOUND);
        x.run();
        due("undo of a run", x.undo(), 0);
        due("the pad stays empty", x.count(12), 0);
    }

    @Says("Undoes the latest change: everything but the pad, the snapshot and why() is as it was before it.")
    static void undoLeavesTheSnapshot() {
        DotToner x = new DotToner();
        x.refill(3, 10);
        due("save", x.save(), 16010);
        due("undo", x.undo(), 0);
        due("in all", x.count(0), 16000);
        due("restore", x.restore(), 16010);
    }

    @Says("Returns how many states the history has then; NOT_POSSIBLE if it has none.")
    static void undoOfTheLastState() {
        DotToner x = new DotToner();
        x.shake(0);
        due("undo", x.undo(), 0);
        due("undo", x.undo(), Check.NOT_POSSIBLE);
        x.shake(0);
        due("undo", x.undo(), 0);
    }

    // ---- save, restore

    @Says("Returns all toner of all cups.")
    static void saveOfMostAndOfHardlyAnyToner() {
        DotToner x = new DotToner();
        x.takeOut(0);
        x.takeOut(1);
        for (int cup = 0; cup < 4; cup++) {
            x.refill(cup, 6000);
        }
        due("all full", x.save(), 24000);
        due("all full", x.count(0), 24000);
    }

    @Says("Takes a snapshot of everything but the pad, the history and why(), in place of the one that was.")
    static void theLatestSnapshotIsRestored() {
        DotToner x = new DotToner();
        x.save();
        x.refill(3, 10);
        due("save", x.save(), 16010);
        x.refill(3, 10);
        due("restore", x.restore(), 16010);
    }

    @Says("Takes a snapshot of everything but the pad, the history and why(), in place of the one that was.")
    static void aSnapshotLeavesThePad() {
        DotToner x = new DotToner();
        Check.write(x, "s0");
        x.save();
        due("behind save", x.count(12), 2);
        x.append('s');
        x.restore();
        due("behind restore", x.count(12), 3);
        due("fault", x.fault(), 2);
    }

    @Says("Takes a snapshot of everything but the pad, the history and why(), in place of the one that was.")
    static void aSnapshotLeavesTheHistory() {
        DotToner x = new DotToner();
        x.shake(0);
        x.save();
        due("behind save", x.count(13), 1);
        x.shake(1);
        x.shake(2);
        x.restore();
        due("behind restore", x.count(13), 4);
        due("undo", x.undo(), 3);
        due("shaken again", x.cup(2, 2), 1000);
        x.undo();
        x.undo();
        due("undo", x.undo(), 0);
        due("not shaken", x.cup(0, 2), 2000);
    }

    @Says("Takes a snapshot of everything but the pad, the history and why(), in place of the one that was.")
    static void aSnapshotTakesEverythingElse() {
        DotToner x = new DotToner();
        DotToner y = new DotToner();
        for (DotToner each : new DotToner[] {x, y}) {
            each.set(DotToner.DARK, 5);
            each.print(0, 999);
            each.print(0, 1);
            each.print(1, 10);
            each.set(DotToner.SETTLE, 7);
            each.move(1, 0);
            each.set(DotToner.SCALE, 8);
            each.refill(3, 9);
        }
        x.save();
        x.set(DotToner.DARK, 1);
        x.set(DotToner.SETTLE, 8);
        x.set(DotToner.STRICT, 1);
        x.set(DotToner.SCALE, 9);
        x.move(2, 1);
        x.print(1, 3);
        x.print(0, 999);
        x.print(0, 999);
        x.print(0, 999);
        x.shake(3);
        x.refill(3, 9);
        x.refill(0, 9);
        x.takeOut(1);
        x.print(1, 9);
        due("restore", x.restore(), y.count(0));
        States.dueSame("restored", x, y);
    }

    @Says("Restores the snapshot, which stays.")
    static void aSnapshotIsRestoredTwice() {
        DotToner x = new DotToner();
        x.save();
        x.refill(3, 10);
        due("restore", x.restore(), 16000);
        x.refill(2, 10);
        x.print(0, 100);
        due("restore", x.restore(), 16000);
        due("kind", x.cup(3, 0), 0);
        due("pages", x.count(4), 0);
    }

    @Says("Returns all toner of all cups then; NOT_POSSIBLE if there is none.")
    static void noRestoreWithoutASnapshot() {
        DotToner x = new DotToner();
        due("at first", x.restore(), Check.NOT_POSSIBLE);
        x.shake(0);
        x.undo();
        due("behind undo", x.restore(), Check.NOT_POSSIBLE);
        x.save();
        due("behind save", x.restore(), 16000);
    }

    @Says("Restores the snapshot, which stays.")
    static void aRestoreIsUndone() {
        DotToner x = new DotToner();
        x.save();
        x.refill(3, 10);
        x.restore();
        due("undo", x.undo(), 1);
        due("in all", x.count(0), 16010);
        due("restore", x.restore(), 16000);
    }

    // ---- several errors

    @Says("If several errors apply to a call, INVALID_ARGUMENT is returned rather than NOT_POSSIBLE, NOT_POSSIBLE rather than LIMIT_REACHED, and LIMIT_REACHED rather than NOT_FOUND.")
    static void invalidRatherThanNotPossible() {
        DotToner x = new DotToner();
        due("in a printer", x.refill(0, 1), Check.NOT_POSSIBLE);
        due("in a printer, too little", x.refill(0, 0), Check.INVALID);
        due("in a printer, too much", x.refill(0, 6001), Check.INVALID);
        x.takeOut(0);
        x.takeOut(1);
        due("no cup", x.takeOut(1), Check.NOT_POSSIBLE);
        due("no such printer", x.takeOut(2), Check.INVALID);
    }

    @Says("If several errors apply to a call, INVALID_ARGUMENT is returned rather than NOT_POSSIBLE, NOT_POSSIBLE rather than LIMIT_REACHED, and LIMIT_REACHED rather than NOT_FOUND.")
    static void invalidRatherThanLimitReached() {
        DotToner x = new DotToner();
        x.refill(3, 6000);
        due("full", x.refill(3, 1), Check.LIMIT);
        due("full, too little", x.refill(3, 0), Check.INVALID);
        due("full, too much", x.refill(3, 6001), Check.INVALID);
        Check.write(x, "s".repeat(60));
        due("full pad", x.append('s'), Check.LIMIT);
        due("full pad, code too low", x.append(32), Check.INVALID);
        due("full pad, code too high", x.append(127), Check.INVALID);
    }

    @Says("If several errors apply to a call, INVALID_ARGUMENT is returned rather than NOT_POSSIBLE, NOT_POSSIBLE rather than LIMIT_REACHED, and LIMIT_REACHED rather than NOT_FOUND.")
    static void notPossibleRatherThanLimitReached() {
        DotToner x = new DotToner();
        x.refill(3, 6000);
        x.move(3, 1);
        due("full and in a printer", x.refill(3, 1), Check.NOT_POSSIBLE);
    }

    @Says("If several errors apply to a call, INVALID_ARGUMENT is returned rather than NOT_POSSIBLE, NOT_POSSIBLE rather than LIMIT_REACHED, and LIMIT_REACHED rather than NOT_FOUND.")
    static void invalidRatherThanNotFound() {
        DotToner x = new DotToner();
        x.set(DotToner.DARK, 5);
        due("too many pages", x.atHand(0, 999, 1, 0), Check.NOT_FOUND);
        due("and no such way", x.atHand(0, 999, 1, 2), Check.INVALID);
        due("and no such way", x.atHand(0, 999, 1, -1), Check.INVALID);
        due("far too many pages", x.atHand(0, 999, 51, 0), Check.INVALID);
        due("none is best", x.bestFor(999, 50), Check.NOT_FOUND);
        due("none is best, pages out of range", x.bestFor(999, 51), Check.INVALID);
        due("none is best, dots out of range", x.bestFor(1000, 50), Check.INVALID);
        due("no darkness", x.darkest(0, 999, 50), Check.NOT_FOUND);
        due("no darkness, pages out of range", x.darkest(0, 999, 51), Check.INVALID);
        due("no darkness, dots out of range", x.darkest(0, 1000, 50), Check.INVALID);
        due("in no printer", x.cup(3, 4), Check.NOT_FOUND);
        due("in no printer, no such number", x.cup(3, 8), Check.INVALID);
        due("no such why", x.why(4), Check.INVALID);
    }

    // ---- a call that returns an error

    @Says("A call that returns an error changes nothing (the pad stays, too).")
    static void aWrongPrintChangesNothing() {
        States.changesNothing(EdgesOfChangesTest::lived, x -> x.print(2, 1), Check.INVALID);
        States.changesNothing(EdgesOfChangesTest::lived, x -> x.print(1, 0), Check.INVALID);
        States.changesNothing(EdgesOfChangesTest::lived, x -> x.print(0, 1000), Check.INVALID);
    }

    @Says("A call that returns an error changes nothing (the pad stays, too).")
    static void aWrongShakeChangesNothing() {
        States.changesNothing(EdgesOfChangesTest::lived, x -> x.shake(4), Check.INVALID);
    }

    @Says("A call that returns an error changes nothing (the pad stays, too).")
    static void aWrongMoveChangesNothing() {
        States.changesNothing(EdgesOfChangesTest::lived, x -> x.move(4, 0), Check.INVALID);
        States.changesNothing(EdgesOfChangesTest::lived, x -> x.move(1, 2), Check.INVALID);
    }

    @Says("A call that returns an error changes nothing (the pad stays, too).")
    static void aWrongTakeOutChangesNothing() {
        States.changesNothing(EdgesOfChangesTest::lived, x -> x.takeOut(2), Check.INVALID);
        States.changesNothing(EdgesOfChangesTest::lived, x -> x.takeOut(0), Check.NOT_POSSIBLE);
    }

    @Says("A call that returns an error changes nothing (the pad stays, too).")
    static void aWrongRefillChangesNothing() {
        States.changesNothing(EdgesOfChangesTest::lived, x -> x.refill(3, 6001), Check.INVALID);
        States.changesNothing(EdgesOfChangesTest::lived, x -> x.refill(1, 1), Check.NOT_POSSIBLE);
        States.changesNothing(EdgesOfChangesTest::lived, x -> x.refill(2, 1), Check.LIMIT);
    }

    @Says("A call that returns an error changes nothing (the pad stays, too).")
    static void aWrongSetChangesNothing() {
        States.changesNothing(EdgesOfChangesTest::lived, x -> x.set(4, 1), Check.INVALID);
        States.changesNothing(EdgesOfChangesTest::lived, x -> x.set(DotToner.DARK, 6), Check.INVALID);
    }

    @Says("A call that returns an error changes nothing (the pad stays, too).")
    static void aWrongAppendChangesNothing() {
        States.changesNothing(EdgesOfChangesTest::lived, x -> x.append(32), Check.INVALID);
        States.changesNothing(x -> Check.write(x, "s0;".repeat(20)), x -> x.append('s'), Check.LIMIT);
    }

    @Says("A call that returns an error changes nothing (the pad stays, too).")
    static void aWrongRunChangesNothing() {
        States.changesNothing(EdgesOfChangesTest::lived, DotToner::run, Check.NOT_POSSIBLE);
        States.changesNothing(x -> Check.write(x, "p0:1;s1;p0"), DotToner::run, Check.NOT_POSSIBLE);
    }

    @Says("A call that returns an error changes nothing (the pad stays, too).")
    static void aWrongUndoChangesNothing() {
        States.changesNothing(x -> {
            x.shake(0);
            x.save();
            x.undo();
            x.append('p');
        }, DotToner::undo, Check.NOT_POSSIBLE);
    }

    @Says("A call that returns an error changes nothing (the pad stays, too).")
    static void aWrongRestoreChangesNothing() {
        States.changesNothing(x -> {
            x.shake(0);
            x.append('p');
        }, DotToner::restore, Check.NOT_POSSIBLE);
    }

    @Says("A call that returns an error changes nothing (the pad stays, too).")
    static void wrongLooksChangeNothing() {
        States.changesNothing(EdgesOfChangesTest::lived, x -> x.cup(4, 0) + x.printer(2, 0) + x.needs(4, 1, 0)
            + x.whyNot(2) + x.count(14) + x.why(4) + x.lasts(4, 1, true), 7 * Check.INVALID);
        States.changesNothing(EdgesOfChangesTest::lived, x -> x.atHand(0, 999, 50, 0) + x.bestFor(999, 50)
            + x.darkest(0, 999, 50), 3 * Check.NOT_FOUND);
    }

    // ---- looks

    @Says("looks; nothing is changed")
    static void looksChangeNothing() {
        States.changesNothing(EdgesOfChangesTest::lived, x -> x.cup(0, 1) * 0 + x.printer(1, 1) * 0 + x.needs(1, 1, 1) * 0
            + x.whyNot(1) * 0 + x.count(0) * 0 + (x.darkness() > 2 ? 1 : 0), 0);
    }

    @Says("what would be; nothing is changed")
    static void whatWouldBeChangesNothing() {
        States.changesNothing(EdgesOfChangesTest::lived, x -> x.lasts(1, 9, true) * 0 + x.lasts(1, 9, false) * 0
            + x.atHand(1, 9, 9, 0) * 0 + x.atHand(1, 9, 9, 1) * 0 + x.bestFor(9, 9) * 0 + x.darkest(1, 9, 9), 5);
    }

    @Says("An object is used for at most 512 calls after it has been made;")
    static void the512thCallIsAnswered() {
        DotToner x = new DotToner();
        x.takeOut(0);
        for (int call = 2; call <= 511; call++) {
            x.print(0, 1);
        }
        due("refused", x.printer(0, 3), 510);
    }

    @Says("An object is used for at most 512 calls after it has been made;")
    static void objectsAreApart() {
        DotToner x = new DotToner();
        DotToner y = new DotToner();
        Check.write(x, "s0;p0:1");
        x.takeOut(0);
        x.run();
        x.save();
        x.set(DotToner.DARK, 5);
        x.append('s');
        States.dueSame("another one", y, new DotToner());
        due("no snapshot of another one", y.restore(), Check.NOT_POSSIBLE);
    }
}
