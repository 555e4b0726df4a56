import java.util.ArrayList;
import java.util.List;

/**
 * The document told a second time, for comparison: each state is a copy, and what
 * would be is found by really printing and shaking on a copy.
 */
final class PaperToner {

    private static final class Cup {
        int kind;
        long hand = 2000;
        long settled = 2000;
        long chip = 4000;
    }

    private static final class Device {
        int cup;
        int dark;
        int light;
        int refused;
        int dots;
        int latest = -4;
    }

    private static final class World {
        Cup[] cups = new Cup[4];
        Device[] devices = new Device[2];
        int[] settings = {2, 10, 0, 50};
        int used;
        int spilt;
        int refilled;

        World() {
            int[] kinds = {0, 1, 2, 0};
            for (int i = 0; i < 4; i++) {
                cups[i] = new Cup();
                cups[i].kind = kinds[i];
            }
            for (int i = 0; i < 2; i++) {
                devices[i] = new Device();
                devices[i].cup = i;
            }
        }

        World copy() {
            World other = new World();
            for (int i = 0; i < 4; i++) {
                other.cups[i].kind = cups[i].kind;
                other.cups[i].hand = cups[i].hand;
                other.cups[i].settled = cups[i].settled;
                other.cups[i].chip = cups[i].chip;
            }
            for (int i = 0; i < 2; i++) {
                Device from = devices[i];
                Device to = other.devices[i];
                to.cup = from.cup;
                to.dark = from.dark;
                to.light = from.light;
                to.refused = from.refused;
                to.dots = from.dots;
                to.latest = from.latest;
            }
            other.settings = settings.clone();
            other.used = used;
            other.spilt = spilt;
            other.refilled = refilled;
            return other;
        }

        int needs(int cup, int dots, int what) {
            int plain = dots * settings[0];
            int[] shares = {8, 6, what == 0 ? 9 : 8};
            return plain * shares[cups[cup].kind] / 8;
        }

        int printIn(int device, int dots) {
            Device d = devices[device];
            int reason = reason(device);
            if (reason > 0) {
                d.refused++;
                return reason;
            }
            Cup c = cups[d.cup];
            long need = needs(d.cup, dots, 0);
            long chips = needs(d.cup, dots, 1);
            if (c.hand >= need) {
                c.hand -= need;
                used += (int) need;
                d.latest = 100;
                d.dark++;
            } else {
                d.latest = (int) (c.hand * 100 / need);
                used += (int) c.hand;
                c.hand = 0;
                d.light++;
            }
            c.chip = Math.max(0, c.chip - chips);
            long down = c.hand / settings[1];
            c.hand -= down;
            c.settled += down;
            d.dots += dots;
            return 10 + d.latest;
        }

        int reason(int device) {
            int cup = devices[device].cup;
            if (cup < 0) {
                return 1;
            }
            if (settings[2] == 1 && cups[cup].chip == 0) {
                return 2;
            }
            return cups[cup].hand == 0 ? 3 : 0;
        }

        int shakeIt(int cup) {
            long up = cups[cup].settled / 2;
            cups[cup].hand += up;
            cups[cup].settled -= up;
            return (int) up;
        }

        int where(int cup) {
            return devices[0].cup == cup ? 0 : devices[1].cup == cup ? 1 : -4;
        }

        int out(int device) {
            int cup = devices[device].cup;
            int lost = cup < 0 ? 0 : (int) (cups[cup].hand / 50);
            if (cup >= 0) {
                cups[cup].hand -= lost;
            }
            spilt += lost;
            devices[device].cup = -4;
            return lost;
        }

        int moveTo(int cup, int device) {
            int from = where(cup);
            if (from == device) {
                return 0;
            }
            int lost = from >= 0 ? out(from) : 0;
            lost += out(device);
            devices[device].cup = cup;
            return lost;
        }

        int all(int cup) {
            return (int) (cups[cup].hand + cups[cup].settled);
        }

        int scale(int cup) {
            return all(cup) - all(cup) % settings[3];
        }

        int left(int cup) {
            return (int) ((scale(cup) + cups[cup].chip) / 2);
        }

        int sum() {
            return all(0) + all(1) + all(2) + all(3);
        }

        /** A copy in which the printer 0 has the cup, and no chip matters. */
        World trial(int cup) {
            World trial = copy();
            trial.settings[2] = 0;
            trial.devices[0].cup = cup;
            trial.devices[1].cup = -4;
            return trial;
        }

        int lastsFor(int cup, int dots, boolean shaking) {
            World trial = trial(cup);
            int pages = 0;
            while (pages < 999) {
                World next = trial.copy();
                if (next.printIn(0, dots) != 110) {
                    next = trial.copy();
                    next.shakeIt(cup);
                    if (!shaking || next.printIn(0, dots) != 110) {
                        break;
                    }
                }
                trial = next;
                pages++;
            }
            return pages;
        }
    }

    private World world = new World();
    private World snapshot = null;
    private final List<World> history = new ArrayList<>();
    private String pad = "";
    private int[] why = null;

    private void change() {
        history.add(world.copy());
        if (history.size() > 4) {
            history.remove(0);
        }
    }

    private static boolean out(int value, int low, int high) {
        return value < low || value > high;
    }

    int print(int printer, int dots) {
        if (out(printer, 0, 1) || out(dots, 1, 999)) {
            return -1;
        }
        change();
        return world.printIn(printer, dots);
    }

    int shake(int cup) {
        if (out(cup, 0, 3)) {
            return -1;
        }
        change();
        return world.shakeIt(cup);
    }

    int move(int cup, int printer) {
        if (out(cup, 0, 3) || out(printer, 0, 1)) {
            return -1;
        }
        change();
        return world.moveTo(cup, printer);
    }

    int takeOut(int printer) {
        if (out(printer, 0, 1)) {
            return -1;
        }
        int cup = world.devices[printer].cup;
        if (cup < 0) {
            return -2;
        }
        change();
        world.out(printer);
        return cup;
    }

    int refill(int cup, int toner) {
        if (out(cup, 0, 3) || out(toner, 1, 6000)) {
            return -1;
        }
        if (world.where(cup) >= 0) {
            return -2;
        }
        if (world.all(cup) == 6000) {
            return -3;
        }
        change();
        int comes = Math.min(toner, 6000 - world.all(cup));
        world.cups[cup].settled += comes;
        world.cups[cup].kind = 2;
        world.refilled += comes;
        return comes;
    }

    int set(int what, int value) {
        int[][] ranges = {{1, 5}, {2, 50}, {0, 1}, {1, 500}};
        if (out(what, 0, 3) || out(value, ranges[what][0], ranges[what][1])) {
            return -1;
        }
        change();
        int before = world.settings[what];
        world.settings[what] = value;
        return before;
    }

    int append(int code) {
        if (out(code, 33, 126)) {
            return -1;
        }
        if (pad.length() >= 60) {
            return -3;
        }
        pad += (char) code;
        return pad.length();
    }

    int clear() {
        int before = pad.length();
        pad = "";
        return before;
    }

    /** The job has to be one; JobTextTest looks at the places of faults. */
    int run() {
        if (!pad.matches("((^|;)(p[01]:[1-9]\\d{0,2}(x([2-9]|[1-4]\\d|50))?|s[0-3]|m[0-3]>[01]))+") || pad.startsWith(";")) {
            return -2;
        }
        change();
        why = null;
        int printed = 0;
        int place = 0;
        String[] deeds = pad.split(";");
        for (int i = 0; i < deeds.length && why == null; i++) {
            String deed = deeds[i];
            int first = deed.charAt(1) - '0';
            if (deed.startsWith("s")) {
                world.shakeIt(first);
            } else if (deed.startsWith("m")) {
                world.moveTo(first, deed.charAt(3) - '0');
            } else {
                String[] numbers = deed.substring(3).split("x");
                int pages = numbers.length > 1 ? Integer.parseInt(numbers[1]) : 1;
                for (int page = 0; page < pages && why == null; page++) {
                    int answer = world.printIn(first, Integer.parseInt(numbers[0]));
                    if (answer < 10) {
                        why = new int[] {answer, i, place, page};
                    } else {
                        printed++;
                    }
                }
            }
            place += deed.length() + 1;
        }
        pad = "";
        return printed;
    }

    int why(int what) {
        return out(what, 0, 3) ? -1 : why == null ? -4 : why[what];
    }

    int cup(int cup, int what) {
        if (out(cup, 0, 3) || out(what, 0, 7)) {
            return -1;
        }
        Cup c = world.cups[cup];
        int left = world.left(cup);
        return (int) new long[] {c.kind, c.hand, c.settled, c.chip, world.where(cup), world.scale(cup), left,
            left - world.all(cup) + 100000}[what];
    }

    int printer(int printer, int what) {
        if (out(printer, 0, 1) || out(what, 0, 5)) {
            return -1;
        }
        Device d = world.devices[printer];
        return new int[] {d.cup, d.dark, d.light, d.refused, d.dots, d.latest}[what];
    }

    int needs(int cup, int dots, int what) {
        if (out(cup, 0, 3) || out(dots, 1, 999) || out(what, 0, 1)) {
            return -1;
        }
        return world.needs(cup, dots, what);
    }

    int whyNot(int printer) {
        return out(printer, 0, 1) ? -1 : world.reason(printer);
    }

    int count(int what) {
        if (out(what, 0, 13)) {
            return -1;
        }
        if (what >= 8 && what <= 11) {
            return world.settings[what - 8];
        }
        int left = 0;
        int overtold = 0;
        for (int i = 0; i < 4; i++) {
            left += world.left(i);
            overtold += world.left(i) > world.all(i) ? 1 : 0;
        }
        Device a = world.devices[0];
        Device b = world.devices[1];
        int inside = (a.cup < 0 ? 0 : 1) + (b.cup < 0 ? 0 : 1);
        return new int[] {world.sum(), world.used, world.spilt, world.refilled, a.dark + a.light + b.dark + b.light,
            inside, left, overtold, 0, 0, 0, 0, pad.length(), history.size()}[what];
    }

    double darkness() {
        double dark = world.devices[0].dark + world.devices[1].dark;
        double light = world.devices[0].light + world.devices[1].light;
        return dark + light == 0 ? 1.0 : dark / (dark + light);
    }

    int lasts(int cup, int dots, boolean shaking) {
        return out(cup, 0, 3) || out(dots, 1, 999) ? -1 : world.lastsFor(cup, dots, shaking);
    }

    int atHand(int cup, int dots, int pages, int way) {
        if (out(cup, 0, 3) || out(dots, 1, 999) || out(pages, 0, 50) || out(way, 0, 1)) {
            return -1;
        }
        World trial = world.trial(cup);
        for (int page = 0; page < pages; page++) {
            if (trial.printIn(0, dots) != 110) {
                return -4;
            }
        }
        return (int) trial.cups[cup].hand;
    }

    int bestFor(int dots, int pages) {
        if (out(dots, 1, 999) || out(pages, 1, 50)) {
            return -1;
        }
        int best = -4;
        for (int cup = 3; cup >= 0; cup--) {
            if (world.lastsFor(cup, dots, true) >= pages && (best < 0 || world.all(cup) <= world.all(best))) {
                best = cup;
            }
        }
        return best;
    }

    int darkest(int cup, int dots, int pages) {
        if (out(cup, 0, 3) || out(dots, 1, 999) || out(pages, 1, 50)) {
            return -1;
        }
        int best = -4;
        for (int darkness = 1; darkness <= 5; darkness++) {
            World trial = world.copy();
            trial.settings[0] = darkness;
            if (trial.lastsFor(cup, dots, true) >= pages) {
                best = darkness;
            }
        }
        return best;
    }

    int undo() {
        if (history.isEmpty()) {
            return -2;
        }
        world = history.remove(history.size() - 1);
        return history.size();
    }

    int save() {
        snapshot = world.copy();
        return world.sum();
    }

    int restore() {
        if (snapshot == null) {
            return -2;
        }
        change();
        world = snapshot.copy();
        return world.sum();
    }
}
