/**
 * Toner told by counts of dots and a cup that is shaken: see ../shared/DOC.md.
 *
 * The public methods look at their arguments and keep the history; what happens
 * to toner and pages is in Machine, what the pad says is in Pad.
 */
public final class DotToner {

    public static final int INVALID_ARGUMENT = -1;
    public static final int NOT_POSSIBLE = -2;
    public static final int LIMIT_REACHED = -3;
    public static final int NOT_FOUND = -4;
    public static final int DARK = 0, SETTLE = 1, STRICT = 2, SCALE = 3;

    private static final int CUPS = 4;
    private static final int PRINTERS = 2;
    private static final int SETTINGS = 4;
    private static final int MOST_DOTS = 999;
    private static final int MOST_PAGES = 50;
    private static final int MOST_LASTING = 999;
    private static final int MOST_DARKNESS = 5;
    private static final int FULL_CUP = 6000;
    private static final int SPILT_PART = 50;
    private static final int FULL_DARK = 100;
    private static final int PRINTED = 10;
    private static final int LEFT_BASE = 100000;
    private static final int FIRST_SIGN = 33;
    private static final int LAST_SIGN = 126;

    private static final int PLAIN = 0;
    private static final int THRIFTY = 1;
    private static final int REFILLED = 2;

    private static final int NO_REASON = 0;
    private static final int NO_CUP = 1;
    private static final int CHIP_EMPTY = 2;
    private static final int NO_TONER = 3;

    private static final int[] LOWEST = {1, 2, 0, 1};
    private static final int[] HIGHEST = {5, 50, 1, 500};

    private final Machine now = new Machine();
    private final Machine snapshot = new Machine();
    private boolean snapshotTaken = false;
    private final History history = new History();
    private final Pad pad = new Pad();
    private final Stop stop = new Stop();

    public DotToner() {
    }

    // ---- printers, cups

    public int print(int printer, int dots) {
        if (!isPrinter(printer) || !isDots(dots)) {
            return INVALID_ARGUMENT;
        }
        history.keep(now);
        return now.printPage(printer, dots);
    }

    public int shake(int cup) {
        if (!isCup(cup)) {
            return INVALID_ARGUMENT;
        }
        history.keep(now);
        return now.shakeCup(cup);
    }

    public int move(int cup, int printer) {
        if (!isCup(cup) || !isPrinter(printer)) {
            return INVALID_ARGUMENT;
        }
        history.keep(now);
        return now.moveCup(cup, printer);
    }

    public int takeOut(int printer) {
        if (!isPrinter(printer)) {
            return INVALID_ARGUMENT;
        }
        int cup = now.cupIn[printer];
        if (!isCup(cup)) {
            return NOT_POSSIBLE;
        }
        history.keep(now);
        now.empty(printer);
        return cup;
    }

    public int refill(int cup, int toner) {
        if (!isCup(cup) || toner < 1 || toner > FULL_CUP) {
            return INVALID_ARGUMENT;
        }
        if (isPrinter(now.printerOf(cup))) {
            return NOT_POSSIBLE;
        }
        if (now.toner(cup) >= FULL_CUP) {
            return LIMIT_REACHED;
        }
        history.keep(now);
        return now.fillCup(cup, toner);
    }

    public int set(int what, int value) {
        if (what < 0 || what >= SETTINGS) {
            return INVALID_ARGUMENT;
        }
        if (value < LOWEST[what] || value > HIGHEST[what]) {
            return INVALID_ARGUMENT;
        }
        history.keep(now);
        int before = now.settings[what];
        now.settings[what] = value;
        return before;
    }

    // ---- texts

    public int append(int code) {
        if (code < FIRST_SIGN || code > LAST_SIGN) {
            return INVALID_ARGUMENT;
        }
        if (!pad.hasRoom()) {
            return LIMIT_REACHED;
        }
        pad.add((char) code);
        return pad.length;
    }

    public int clear() {
        int before = pad.length;
        pad.wipe();
        return before;
    }

    public int fault() {
        return pad.findFault();
    }

    public int run() {
        if (pad.findFault() != NOT_FOUND) {
            return NOT_POSSIBLE;
        }
        history.keep(now);
        stop.forget();
        int printed = 0;
        for (int deed = 0; deed < pad.deeds && !stop.known(); deed++) {
            printed += doDeed(deed);
        }
        pad.wipe();
        return printed;
    }

    public int why(int what) {
        switch (what) {
            case 0:
                return stop.reason;
            case 1:
                return stop.deed;
            case 2:
                return stop.place;
            case 3:
                return stop.pages;
            default:
                return INVALID_ARGUMENT;
        }
    }

    // ---- looks; nothing is changed

    public int cup(int cup, int what) {
        if (!isCup(cup)) {
            return INVALID_ARGUMENT;
        }
        switch (what) {
            case 0:
                return now.kinds[cup];
            case 1:
                return now.hand[cup];
            case 2:
                return now.settled[cup];
            case 3:
                return now.chips[cup];
            case 4:
                return now.printerOf(cup);
            case 5:
                return now.scaleTells(cup);
            case 6:
                return now.toldLeft(cup);
            case 7:
                return now.toldLeft(cup) - now.toner(cup) + LEFT_BASE;
            default:
                return INVALID_ARGUMENT;
        }
    }

    public int printer(int printer, int what) {
        if (!isPrinter(printer)) {
            return INVALID_ARGUMENT;
        }
        switch (what) {
            case 0:
                return now.cupIn[printer];
            case 1:
                return now.darkPages[printer];
            case 2:
                return now.lightPages[printer];
            case 3:
                return now.refusedPages[printer];
            case 4:
                return now.dotsPrinted[printer];
            case 5:
                return now.latest[printer];
            default:
                return INVALID_ARGUMENT;
        }
    }

    public int needs(int cup, int dots, int what) {
        if (!isCup(cup) || !isDots(dots)) {
            return INVALID_ARGUMENT;
        }
        switch (what) {
            case 0:
                return now.tonerFor(cup, dots, now.settings[DARK]);
            case 1:
                return now.chipFor(cup, dots, now.settings[DARK]);
            default:
                return INVALID_ARGUMENT;
        }
    }

    public int whyNot(int printer) {
        if (!isPrinter(printer)) {
            return INVALID_ARGUMENT;
        }
        return now.refusal(now.cupIn[printer]);
    }

    public int count(int what) {
        switch (what) {
            case 0:
                return now.allToner();
            case 1:
                return now.used;
            case 2:
                return now.spilt;
            case 3:
                return now.refilled;
            case 4:
                return now.darkOfAll() + now.lightOfAll();
            case 5:
                return now.cupsInside();
            case 6:
                return now.allToldLeft();
            case 7:
                return now.cupsOvertold();
            case 8:
            case 9:
            case 10:
            case 11:
                return now.settings[what - 8];
            case 12:
                return pad.length;
            case 13:
                return history.size;
            default:
                return INVALID_ARGUMENT;
        }
    }

    public double darkness() {
        int dark = now.darkOfAll();
        int pages = dark + now.lightOfAll();
        return pages > 0 ? (double) dark / (double) pages : 1.0;
    }

    // ---- what would be; nothing is changed

    public int lasts(int cup, int dots, boolean shaking) {
        if (!isCup(cup) || !isDots(dots)) {
            return INVALID_ARGUMENT;
        }
        int need = now.tonerFor(cup, dots, now.settings[DARK]);
        return now.pagesLasting(cup, need, shaking, MOST_LASTING);
    }

    public int atHand(int cup, int dots, int pages, int way) {
        if (!isCup(cup) || !isDots(dots) || pages < 0 || pages > MOST_PAGES || way < 0 || way > 1) {
            return INVALID_ARGUMENT;
        }
        int need = now.tonerFor(cup, dots, now.settings[DARK]);
        if (now.pagesLasting(cup, need, false, pages) < pages) {
            return NOT_FOUND;
        }
        return way == 0 ? now.handPageByPage(cup, need, pages) : now.handAddedUp(cup, need, pages);
    }

    public int bestFor(int dots, int pages) {
        if (!isDots(dots) || !isJobLength(pages)) {
            return INVALID_ARGUMENT;
        }
        int best = NOT_FOUND;
        int least = 0;
        for (int cup = 0; cup < CUPS; cup++) {
            boolean fits = now.lastsShaken(cup, dots, now.settings[DARK], pages);
            if (fits && (best == NOT_FOUND || now.toner(cup) < least)) {
                best = cup;
                least = now.toner(cup);
            }
        }
        return best;
    }

    public int darkest(int cup, int dots, int pages) {
        if (!isCup(cup) || !isDots(dots) || !isJobLength(pages)) {
            return INVALID_ARGUMENT;
        }
        for (int darkness = MOST_DARKNESS; darkness >= 1; darkness--) {
            if (now.lastsShaken(cup, dots, darkness, pages)) {
                return darkness;
            }
        }
        return NOT_FOUND;
    }

    // ---- history, snapshot

    public int undo() {
        if (history.size < 1) {
            return NOT_POSSIBLE;
        }
        history.takeBack(now);
        return history.size;
    }

    public int save() {
        snapshot.becomeLike(now);
        snapshotTaken = true;
        return now.allToner();
    }

    public int restore() {
        if (!snapshotTaken) {
            return NOT_POSSIBLE;
        }
        history.keep(now);
        now.becomeLike(snapshot);
        return now.allToner();
    }

    // ---- the deeds of a job, which answer how many pages they printed

    private int doDeed(int deed) {
        char letter = pad.letters[deed];
        if (letter == 'p') {
            return printPagesOf(deed);
        }
        if (letter == 's') {
            now.shakeCup(pad.firsts[deed]);
        } else {
            now.moveCup(pad.firsts[deed], pad.seconds[deed]);
        }
        return 0;
    }

    private int printPagesOf(int deed) {
        int wanted = pad.times[deed];
        for (int pages = 0; pages < wanted; pages++) {
            int answer = now.printPage(pad.firsts[deed], pad.seconds[deed]);
            if (answer < PRINTED) {
                stop.note(answer, deed, pad.places[deed], pages);
                return pages;
            }
        }
        return wanted;
    }

    // ---- ranges

    private static boolean isCup(int cup) {
        return cup >= 0 && cup < CUPS;
    }

    private static boolean isPrinter(int printer) {
        return printer >= 0 && printer < PRINTERS;
    }

    private static boolean isDots(int dots) {
        return dots >= 1 && dots <= MOST_DOTS;
    }

    private static boolean isJobLength(int pages) {
        return pages >= 1 && pages <= MOST_PAGES;
    }

    private static int share(int whole, int divisor) {
        return divisor > 0 ? whole / divisor : 0;
    }

    /**
     * All that undo and a snapshot bring back: settings, cups, printers, counts.
     * Its methods are called with cups and printers that are in their ranges.
     */
    private static final class Machine {

        final int[] settings = {2, 10, 0, 50};

        final int[] kinds = {PLAIN, THRIFTY, REFILLED, PLAIN};
        final int[] hand = {2000, 2000, 2000, 2000};
        final int[] settled = {2000, 2000, 2000, 2000};
        final int[] chips = {4000, 4000, 4000, 4000};

        final int[] cupIn = {0, 1};
        final int[] darkPages = {0, 0};
        final int[] lightPages = {0, 0};
        final int[] refusedPages = {0, 0};
        final int[] dotsPrinted = {0, 0};
        final int[] latest = {NOT_FOUND, NOT_FOUND};

        int used = 0;
        int spilt = 0;
        int refilled = 0;

        void becomeLike(Machine other) {
            System.arraycopy(other.settings, 0, settings, 0, SETTINGS);
            System.arraycopy(other.kinds, 0, kinds, 0, CUPS);
            System.arraycopy(other.hand, 0, hand, 0, CUPS);
            System.arraycopy(other.settled, 0, settled, 0, CUPS);
            System.arraycopy(other.chips, 0, chips, 0, CUPS);
            System.arraycopy(other.cupIn, 0, cupIn, 0, PRINTERS);
            System.arraycopy(other.darkPages, 0, darkPages, 0, PRINTERS);
            System.arraycopy(other.lightPages, 0, lightPages, 0, PRINTERS);
            System.arraycopy(other.refusedPages, 0, refusedPages, 0, PRINTERS);
            System.arraycopy(other.dotsPrinted, 0, dotsPrinted, 0, PRINTERS);
            System.arraycopy(other.latest, 0, latest, 0, PRINTERS);
            used = other.used;
            spilt = other.spilt;
            refilled = other.refilled;
        }

        int tonerFor(int cup, int dots, int darkness) {
            int plain = dots * darkness;
            switch (kinds[cup]) {
                case THRIFTY:
                    return plain * 3 / 4;
                case REFILLED:
                    return plain * 9 / 8;
                default:
                    return plain;
            }
        }

        int chipFor(int cup, int dots, int darkness) {
            // the chip of a refilled cup counts as if the cup were plain
            return kinds[cup] == REFILLED ? dots * darkness : tonerFor(cup, dots, darkness);
        }

        /** Why a page would be refused with this cup, or without one. */
        int refusal(int cup) {
            if (!isCup(cup)) {
                return NO_CUP;
            }
            if (chips[cup] == 0 && settings[STRICT] == 1) {
                return CHIP_EMPTY;
            }
            return hand[cup] == 0 ? NO_TONER : NO_REASON;
        }

        int printPage(int printer, int dots) {
            int cup = cupIn[printer];
            int reason = refusal(cup);
            if (reason != NO_REASON) {
                refusedPages[printer]++;
                return reason;
            }
            int shade = useToner(cup, tonerFor(cup, dots, settings[DARK]));
            int left = chips[cup] - chipFor(cup, dots, settings[DARK]);
            chips[cup] = left > 0 ? left : 0;
            settleToner(cup);
            if (shade == FULL_DARK) {
                darkPages[printer]++;
            } else {
                lightPages[printer]++;
            }
            dotsPrinted[printer] += dots;
            latest[printer] = shade;
            return PRINTED + shade;
        }

        /** Uses what a page needs, or all there is; answers how dark the page is. */
        private int useToner(int cup, int need) {
            int taken = hand[cup] < need ? hand[cup] : need;
            hand[cup] -= taken;
            used += taken;
            return taken == need ? FULL_DARK : share(taken * 100, need);
        }

        private void settleToner(int cup) {
            int down = share(hand[cup], settings[SETTLE]);
            hand[cup] -= down;
            settled[cup] += down;
        }

        int shakeCup(int cup) {
            int up = settled[cup] / 2;
            settled[cup] -= up;
            hand[cup] += up;
            return up;
        }

        /** Answers how much is spilt by that. */
        int moveCup(int cup, int printer) {
            if (cupIn[printer] == cup) {
                return 0;
            }
            int before = spilt;
            int from = printerOf(cup);
            if (isPrinter(from)) {
                empty(from);
            }
            empty(printer);
            cupIn[printer] = cup;
            return spilt - before;
        }

        void empty(int printer) {
            int cup = cupIn[printer];
            if (!isCup(cup)) {
                return;
            }
            int lost = hand[cup] / SPILT_PART;
            hand[cup] -= lost;
            spilt += lost;
            cupIn[printer] = NOT_FOUND;
        }

        int fillCup(int cup, int toner) {
            int room = FULL_CUP - toner(cup);
            int comes = toner < room ? toner : room;
            settled[cup] += comes;
            refilled += comes;
            kinds[cup] = REFILLED;
            return comes;
        }

        int printerOf(int cup) {
            for (int printer = 0; printer < PRINTERS; printer++) {
                if (cupIn[printer] == cup) {
                    return printer;
                }
            }
            return NOT_FOUND;
        }

        int toner(int cup) {
            return hand[cup] + settled[cup];
        }

        int scaleTells(int cup) {
            return share(toner(cup), settings[SCALE]) * settings[SCALE];
        }

        int toldLeft(int cup) {
            return (scaleTells(cup) + chips[cup]) / 2;
        }

        int allToner() {
            int sum = 0;
            for (int cup = 0; cup < CUPS; cup++) {
                sum += toner(cup);
            }
            return sum;
        }

        int allToldLeft() {
            int sum = 0;
            for (int cup = 0; cup < CUPS; cup++) {
                sum += toldLeft(cup);
            }
            return sum;
        }

        int cupsOvertold() {
            int cups = 0;
            for (int cup = 0; cup < CUPS; cup++) {
                if (toldLeft(cup) > toner(cup)) {
                    cups++;
                }
            }
            return cups;
        }

        int cupsInside() {
            int cups = 0;
            for (int printer = 0; printer < PRINTERS; printer++) {
                if (isCup(cupIn[printer])) {
                    cups++;
                }
            }
            return cups;
        }

        int darkOfAll() {
            return darkPages[0] + darkPages[1];
        }

        int lightOfAll() {
            return lightPages[0] + lightPages[1];
        }

        int pagesLasting(int cup, int need, boolean shaking, int most) {
            int high = hand[cup];
            int low = settled[cup];
            for (int pages = 0; pages < most; pages++) {
                if (shaking && !wouldBeDark(high, need) && wouldBeDark(high + low / 2, need)) {
                    high += low / 2;
                    low -= low / 2;
                }
                if (!wouldBeDark(high, need)) {
                    return pages;
                }
                high -= need;
                int down = share(high, settings[SETTLE]);
                high -= down;
                low += down;
            }
            return most;
        }

        boolean lastsShaken(int cup, int dots, int darkness, int pages) {
            return pagesLasting(cup, tonerFor(cup, dots, darkness), true, pages) >= pages;
        }

        // a page may need no toner at all (1 dot of a thrifty cup at darkness 1),
        // and is refused all the same if nothing is at hand
        private static boolean wouldBeDark(int high, int need) {
            return high > 0 && high >= need;
        }

        int handPageByPage(int cup, int need, int pages) {
            int high = hand[cup];
            for (int page = 0; page < pages; page++) {
                high -= need;
                high -= share(high, settings[SETTLE]);
            }
            return high;
        }

        int handAddedUp(int cup, int need, int pages) {
            int first = hand[cup];
            int allUsed = 0;
            int allSettled = 0;
            for (int page = 0; page < pages; page++) {
                allUsed += need;
                allSettled += share(first - allUsed - allSettled, settings[SETTLE]);
            }
            return first - allUsed - allSettled;
        }
    }

    /** The states before the latest changes, the oldest of which is overwritten. */
    private static final class History {

        private static final int MOST = 4;

        private final Machine[] states = {new Machine(), new Machine(), new Machine(), new Machine()};
        private int oldest = 0;
        int size = 0;

        void keep(Machine state) {
            states[(oldest + size) % MOST].becomeLike(state);
            if (size < MOST) {
                size++;
            } else {
                oldest = (oldest + 1) % MOST;
            }
        }

        void takeBack(Machine state) {
            if (size > 0) {
                size--;
                state.becomeLike(states[(oldest + size) % MOST]);
            }
        }
    }

    /** At which page the latest job stopped. */
    private static final class Stop {

        int reason = NOT_FOUND;
        int deed = NOT_FOUND;
        int place = NOT_FOUND;
        int pages = NOT_FOUND;

        void forget() {
            note(NOT_FOUND, NOT_FOUND, NOT_FOUND, NOT_FOUND);
        }

        void note(int theReason, int theDeed, int thePlace, int thePages) {
            reason = theReason;
            deed = theDeed;
            place = thePlace;
            pages = thePages;
        }

        boolean known() {
            return reason != NOT_FOUND;
        }
    }

    /** The text of a job; findFault reads it and leaves its deeds in rows. */
    private static final class Pad {

        private static final int MOST_SIGNS = 60;
        // a deed has two signs at least
        private static final int MOST_DEEDS = 30;

        private final char[] signs = new char[MOST_SIGNS];
        int length = 0;

        // the sign that is read next
        private int at = 0;

        int deeds = 0;
        final char[] letters = new char[MOST_DEEDS];
        final int[] places = new int[MOST_DEEDS];
        // p: printer, dots, pages; s: cup; m: cup, printer
        final int[] firsts = new int[MOST_DEEDS];
        final int[] seconds = new int[MOST_DEEDS];
        final int[] times = new int[MOST_DEEDS];

        boolean hasRoom() {
            return length < MOST_SIGNS;
        }

        void add(char sign) {
            if (hasRoom()) {
                signs[length] = sign;
                length++;
            }
        }

        void wipe() {
            length = 0;
        }

        /** The place of the first wrong sign, the length if more is due, NOT_FOUND for a job. */
        int findFault() {
            at = 0;
            deeds = 0;
            boolean sound = readDeed();
            for (int more = 1; more < MOST_DEEDS && sound && read(';'); more++) {
                sound = readDeed();
            }
            return sound && at == length ? NOT_FOUND : at;
        }

        private boolean readDeed() {
            if (deeds >= MOST_DEEDS) {
                return false;
            }
            places[deeds] = at;
            boolean sound;
            if (read('p')) {
                letters[deeds] = 'p';
                sound = readPrinting();
            } else if (read('s')) {
                letters[deeds] = 's';
                sound = readShaking();
            } else {
                letters[deeds] = 'm';
                sound = read('m') && readMoving();
            }
            deeds++;
            return sound;
        }

        private boolean readPrinting() {
            int printer = readBelow(PRINTERS);
            if (printer == NOT_FOUND || !read(':')) {
                return false;
            }
            int dots = readNumber(1, MOST_DOTS);
            if (dots == NOT_FOUND) {
                return false;
            }
            int pages = read('x') ? readNumber(2, MOST_PAGES) : 1;
            firsts[deeds] = printer;
            seconds[deeds] = dots;
            times[deeds] = pages;
            return pages != NOT_FOUND;
        }

        private boolean readShaking() {
            int cup = readBelow(CUPS);
            firsts[deeds] = cup;
            return cup != NOT_FOUND;
        }

        private boolean readMoving() {
            int cup = readBelow(CUPS);
            if (cup == NOT_FOUND || !read('>')) {
                return false;
            }
            int printer = readBelow(PRINTERS);
            firsts[deeds] = cup;
            seconds[deeds] = printer;
            return printer != NOT_FOUND;
        }

        private boolean read(char sign) {
            if (at < length && signs[at] == sign) {
                at++;
                return true;
            }
            return false;
        }

        private int readBelow(int limit) {
            int digit = at < length ? signs[at] - '0' : NOT_FOUND;
            if (digit < 0 || digit >= limit) {
                return NOT_FOUND;
            }
            at++;
            return digit;
        }

        /** Stops before a digit that no number up to the highest has there. */
        private int readNumber(int lowest, int highest) {
            int number = 0;
            for (int i = at; i < length; i++) {
                int digit = signs[i] - '0';
                int grown = 10 * number + digit;
                if (digit < 0 || digit > 9 || grown == 0 || grown > highest) {
                    break;
                }
                number = grown;
                at = i + 1;
            }
            return number >= lowest ? number : NOT_FOUND;
        }
    }
}
