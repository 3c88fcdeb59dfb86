import java.util.function.Supplier;
import java.util.function.ToLongFunction;

/**
 * "Refused, and nothing changes: UNKNOWN (no such MOUSE, STEP, RAT), OUTSIDE
 * (another number is not as told), NOT (not now: as told), FULL: the first of
 * these that fits." Each refusal of each call, where two fit the first of
 * them; behind each the object is held against a twin without the call.
 */
public final class RefusalsTest {
    private static final int UNKNOWN = BellTheCat.UNKNOWN;
    private static final int OUTSIDE = BellTheCat.OUTSIDE;
    private static final int NOT = BellTheCat.NOT;
    private static final int FULL = BellTheCat.FULL;
    private static final int MIN = Integer.MIN_VALUE;
    private static final int MAX = Integer.MAX_VALUE;
    private static final Supplier<BellTheCat> NEW = BellTheCat::new;
    /* No such one in the full house, which has as many as there can be. */
    private static final int[] NO_MOUSE = {-1, 6, MIN, MAX};
    private static final int[] NO_STEP = {-1, 5, MIN, MAX};
    private static final int[] NO_RAT = {-1, 4, MIN, MAX};
    private static final int[] NO_PART = {-1, 2, MIN, MAX};

    public static void main(String[] args) {
        ofTheText();
        ofMouse();
        ofStep();
        ofRat();
        ofAs();
        ofDanger();
        ofPut();
        ofNight();
        ofUndo();
        ofKeepAndBack();
        ofThrough();
        ofFails();
        ofLoss();
        ofBest();
        ofDrawn();
        ofAlone();
        ofDread();
        ofHires();
        ofRests();
        ofRats();
        ofShoe();
        ofCallOff();
        ofSeen();
        ofTeams();
        ofCount();
        nothingIsThereAtFirst();
        Check.end();
    }

    private static void refused(String call, Supplier<BellTheCat> made, ToLongFunction<BellTheCat> ask, long want) {
        Check.changesNothing(call, made, ask, want);
    }

    private static void ofTheText() {
        for (int letter : new int[] {-1, 256, MIN, MAX}) {
            refused("write(" + letter + ")", States::full, x -> x.write(letter), OUTSIDE);
            refused("write(" + letter + ") of a full text", States::written, x -> x.write(letter), OUTSIDE);
        }
        for (int letter : new int[] {0, ' ', 'a', 255}) {
            refused("the 161st, " + letter, States::written, x -> x.write(letter), FULL);
        }
        refused("house() of an empty text", NEW, x -> x.house(), NOT);
        refused("house() of an empty text, whole", States::whole, x -> x.house(), NOT);
        refused("house() of a fault", States::faulty, x -> x.house(), NOT);
        refused("fault() of a fault", States::faulty, x -> x.fault(), 11);
    }

    private static void ofMouse() {
        for (int mouse : NO_MOUSE) {
            for (int what : new int[] {0, 5, -1, 6}) {
                refused("mouse(" + mouse + ", " + what + ")", States::full, x -> x.mouse(mouse, what), UNKNOWN);
            }
        }
        for (int what : new int[] {-1, 6, MIN, MAX}) {
            refused("mouse(0, " + what + ") of the dead", States::full, x -> x.mouse(0, what), OUTSIDE);
            refused("mouse(5, " + what + ")", States::full, x -> x.mouse(5, what), OUTSIDE);
        }
    }

    private static void ofStep() {
        for (int step : NO_STEP) {
            for (int what : new int[] {0, 1, -1, 2}) {
                refused("step(" + step + ", " + what + ")", States::full, x -> x.step(step, what), UNKNOWN);
            }
        }
        for (int what : new int[] {-1, 2, MIN, MAX}) {
            refused("step(0, " + what + ")", States::full, x -> x.step(0, what), OUTSIDE);
            refused("step(4, " + what + ")", States::full, x -> x.step(4, what), OUTSIDE);
        }
    }

    private static void ofRat() {
        for (int rat : NO_RAT) {
            for (int what : new int[] {0, 2, -1, 3}) {
                refused("rat(" + rat + ", " + what + ")", States::full, x -> x.rat(rat, what), UNKNOWN);
            }
        }
        for (int what : new int[] {-1, 3, MIN, MAX}) {
            refused("rat(0, " + what + ")", States::full, x -> x.rat(0, what), OUTSIDE);
            refused("rat(3, " + what + ")", States::full, x -> x.rat(3, what), OUTSIDE);
        }
    }

    private static void ofAs() {
        for (int mouse : NO_MOUSE) {
            for (int kind : new int[] {0, 4, -1, 5}) {
                refused("as(" + mouse + ", " + kind + ")", States::full, x -> x.as(mouse, kind), UNKNOWN);
            }
        }
        for (int kind : new int[] {-1, 5, MIN, MAX}) {
            refused("as(0, " + kind + ") of the dead", States::full, x -> x.as(0, kind), OUTSIDE);
            refused("as(2, " + kind + ")", States::full, x -> x.as(2, kind), OUTSIDE);
        }
        int[][] noneSuch = {{0, 2}, {0, 3}, {0, 4}, {1, 3}, {1, 4}, {2, 1}, {2, 2}, {2, 4}, {3, 2}, {3, 3}};
        for (int[] pair : noneSuch) {
            refused("as(" + pair[0] + ", " + pair[1] + ")", States::full, x -> x.as(pair[0], pair[1]), NOT);
        }
    }

    private static void ofDanger() {
        for (int step : NO_STEP) {
            refused("danger(" + step + ", 0)", States::full, x -> x.danger(step, 0), UNKNOWN);
        }
        for (int mouse : NO_MOUSE) {
            refused("danger(0, " + mouse + ")", States::full, x -> x.danger(0, mouse), UNKNOWN);
        }
        /* 5 is the last mouse, but no step: which number is which. */
        refused("danger(5, 4)", States::full, x -> x.danger(5, 4), UNKNOWN);
    }

    private static void ofPut() {
        for (int step : NO_STEP) {
            refused("put(" + step + ", 1)", States::full, x -> x.put(step, 1), UNKNOWN);
            refused("put(" + step + ", 0), who is dead", States::full, x -> x.put(step, 0), UNKNOWN);
        }
        for (int mouse : NO_MOUSE) {
            refused("put(0, " + mouse + ")", States::full, x -> x.put(0, mouse), UNKNOWN);
        }
        refused("put(0, 0), who is dead", States::full, x -> x.put(0, 0), NOT);
        refused("put(4, 0), who is dead", States::full, x -> x.put(4, 0), NOT);
        refused("put(0, 0), nobody lives", States::extinct, x -> x.put(0, 0), NOT);
    }

    private static void ofNight() {
        for (int z : new int[] {-1, 10000, MIN, MAX}) {
            refused("night(" + z + ")", States::whole, x -> x.night(z), OUTSIDE);
            refused("night(" + z + "), lacking", States::lacking, x -> x.night(z), OUTSIDE);
            refused("night(" + z + "), the bell is on", States::belled, x -> x.night(z), OUTSIDE);
            refused("night(" + z + ") of a new one", NEW, x -> x.night(z), OUTSIDE);
        }
        for (int z : new int[] {0, 9999}) {
            refused("night(" + z + "), lacking", States::lacking, x -> x.night(z), NOT);
            refused("night(" + z + "), half a team", States::full, x -> x.night(z), NOT);
            refused("night(" + z + "), the bell is on", States::belled, x -> x.night(z), NOT);
            refused("night(" + z + "), nobody lives", States::extinct, x -> x.night(z), NOT);
        }
    }

    private static void ofUndo() {
        refused("undo() of a new one", NEW, x -> x.undo(), NOT);
        refused("undo() behind a text", States::written, x -> x.undo(), NOT);
        refused("undo() behind back()", () -> {
            BellTheCat cat = States.full();
            cat.back(0);
            return cat;
        }, x -> x.undo(), NOT);
        refused("undo() of the ninth", () -> {
            BellTheCat cat = States.full();
            for (int left = 7; left >= 0; left--) {
                Check.due("undo() to " + left, left, cat.undo());
            }
            return cat;
        }, x -> x.undo(), NOT);
    }

    private static void ofKeepAndBack() {
        for (int k : new int[] {-1, 2, MIN, MAX}) {
            refused("keep(" + k + ")", States::full, x -> x.keep(k), UNKNOWN);
            refused("back(" + k + ")", States::full, x -> x.back(k), UNKNOWN);
            refused("back(" + k + "), nothing is kept", States::whole, x -> x.back(k), UNKNOWN);
        }
        refused("back(0), nothing is kept", States::whole, x -> x.back(0), NOT);
        refused("back(1), nothing is kept", States::whole, x -> x.back(1), NOT);
        refused("back(1), only 0 is kept", States::belled, x -> x.back(1), NOT);
        refused("back(0), only 1 is kept", States::faulty, x -> x.back(0), NOT);
    }

    private static void ofThrough() {
        for (int part : NO_PART) {
            refused("through(" + part + ")", States::whole, x -> x.through(part), OUTSIDE);
            refused("through(" + part + "), lacking", States::lacking, x -> x.through(part), OUTSIDE);
        }
        for (int part = 0; part <= 1; part++) {
            int told = part;
            refused("through(" + part + "), lacking", States::lacking, x -> x.through(told), NOT);
            refused("through(" + part + "), nobody lives", States::extinct, x -> x.through(told), NOT);
        }
    }

    private static void ofFails() {
        for (int step : NO_STEP) {
            refused("fails(" + step + ", 0), half a team", States::full, x -> x.fails(step, 0), UNKNOWN);
            refused("fails(" + step + ", 2)", States::full, x -> x.fails(step, 2), UNKNOWN);
        }
        refused("fails(3, 0), whole", States::whole, x -> x.fails(3, 0), UNKNOWN);
        for (int part : NO_PART) {
            refused("fails(2, " + part + ")", States::whole, x -> x.fails(2, part), OUTSIDE);
            refused("fails(2, " + part + "), lacking", States::lacking, x -> x.fails(2, part), OUTSIDE);
        }
        /* That the step asked for has one does not make the team whole. */
        for (int step = 0; step < 3; step++) {
            int told = step;
            refused("fails(" + step + ", 0), lacking", States::lacking, x -> x.fails(told, 0), NOT);
            refused("fails(" + step + ", 1), lacking", States::lacking, x -> x.fails(told, 1), NOT);
        }
    }

    private static void ofLoss() {
        for (int part : NO_PART) {
            refused("loss(" + part + ")", States::whole, x -> x.loss(part), OUTSIDE);
            refused("loss(" + part + "), lacking", States::lacking, x -> x.loss(part), OUTSIDE);
        }
        refused("loss(0), lacking", States::lacking, x -> x.loss(0), NOT);
        refused("loss(1), lacking", States::lacking, x -> x.loss(1), NOT);
        refused("loss(0), nobody lives", States::extinct, x -> x.loss(0), NOT);
    }

    private static void ofBest() {
        for (int part : NO_PART) {
            refused("best(" + part + ")", States::full, x -> x.best(part), OUTSIDE);
            refused("best(" + part + "), nobody lives", States::extinct, x -> x.best(part), OUTSIDE);
        }
        refused("best(0), nobody lives", States::extinct, x -> x.best(0), NOT);
        refused("best(1), nobody lives", States::extinct, x -> x.best(1), NOT);
        refused("best(0), no mice", () -> Check.told("step 0"), x -> x.best(0), NOT);
        for (int step : NO_STEP) {
            refused("bestOf(" + step + ")", States::full, x -> x.bestOf(step), UNKNOWN);
        }
        refused("bestOf(1), nobody lives", States::extinct, x -> x.bestOf(1), UNKNOWN);
    }

    private static void ofDrawn() {
        for (int mouse : NO_MOUSE) {
            refused("drawn(" + mouse + ", 0)", States::full, x -> x.drawn(mouse, 0), UNKNOWN);
            refused("drawn(" + mouse + ", 2)", States::full, x -> x.drawn(mouse, 2), UNKNOWN);
        }
        refused("drawn(2, 0), no tickets", States::ticketless, x -> x.drawn(2, 0), UNKNOWN);
        for (int part : NO_PART) {
            refused("drawn(0, " + part + ") of the dead", States::full, x -> x.drawn(0, part), OUTSIDE);
            refused("drawn(5, " + part + ")", States::full, x -> x.drawn(5, part), OUTSIDE);
            refused("drawn(1, " + part + "), no tickets", States::ticketless, x -> x.drawn(1, part), OUTSIDE);
        }
        for (int mouse = 0; mouse < 2; mouse++) {
            int told = mouse;
            refused("drawn(" + mouse + ", 0), no tickets", States::ticketless, x -> x.drawn(told, 0), NOT);
            refused("drawn(" + mouse + ", 1), no tickets", States::ticketless, x -> x.drawn(told, 1), NOT);
        }
        refused("drawn(0, 0), nobody lives", States::extinct, x -> x.drawn(0, 0), NOT);
    }

    private static void ofAlone() {
        for (int mouse : NO_MOUSE) {
            refused("alone(" + mouse + ", 0)", States::full, x -> x.alone(mouse, 0), UNKNOWN);
            refused("alone(" + mouse + ", 2)", States::full, x -> x.alone(mouse, 2), UNKNOWN);
        }
        for (int part : NO_PART) {
            refused("alone(0, " + part + ") of the dead", States::full, x -> x.alone(0, part), OUTSIDE);
            refused("alone(5, " + part + ")", States::full, x -> x.alone(5, part), OUTSIDE);
        }
    }

    private static void ofDread() {
        for (int mouse : NO_MOUSE) {
            refused("dread(" + mouse + ", 0)", States::full, x -> x.dread(mouse, 0), UNKNOWN);
            refused("dread(" + mouse + ", 2)", States::full, x -> x.dread(mouse, 2), UNKNOWN);
        }
        for (int part : NO_PART) {
            refused("dread(0, " + part + ") of the dead", States::full, x -> x.dread(0, part), OUTSIDE);
            refused("dread(5, " + part + ")", States::full, x -> x.dread(5, part), OUTSIDE);
        }
    }

    private static void ofHires() {
        for (int mouse : NO_MOUSE) {
            refused("hires(" + mouse + ")", States::full, x -> x.hires(mouse), UNKNOWN);
        }
        refused("hires(0), who is dead", States::full, x -> x.hires(0), NOT);
        refused("hires(0), nobody lives", States::extinct, x -> x.hires(0), NOT);
        refused("hires(1), nobody lives", States::extinct, x -> x.hires(1), UNKNOWN);
    }

    private static void ofRests() {
        for (int fund : new int[] {-1, 100, MIN, MAX}) {
            refused("rests(" + fund + ", 0)", States::full, x -> x.rests(fund, 0), OUTSIDE);
            refused("rests(" + fund + ", 1)", States::full, x -> x.rests(fund, 1), OUTSIDE);
            refused("rests(" + fund + ", 1) of a new one", NEW, x -> x.rests(fund, 1), OUTSIDE);
        }
        for (int what : new int[] {-1, 2, MIN, MAX}) {
            refused("rests(0, " + what + ")", States::full, x -> x.rests(0, what), OUTSIDE);
            refused("rests(99, " + what + ")", States::full, x -> x.rests(99, what), OUTSIDE);
        }
    }

    private static void ofRats() {
        for (int what : new int[] {-1, 2, MIN, MAX}) {
            refused("rats(" + what + ")", States::full, x -> x.rats(what), OUTSIDE);
            refused("rats(" + what + ") of none", NEW, x -> x.rats(what), OUTSIDE);
        }
    }

    private static void ofShoe() {
        for (int mouse : NO_MOUSE) {
            refused("shoe: mouse " + mouse, States::full, x -> x.shoe(mouse, 0, 0, 0, 0), UNKNOWN);
            refused("shoe: mouse " + mouse + ", n 9", States::full, x -> x.shoe(mouse, 0, 9, 0, 0), UNKNOWN);
        }
        for (int step : NO_STEP) {
            refused("shoe: step " + step, States::full, x -> x.shoe(0, step, 0, 0, 0), UNKNOWN);
            refused("shoe: step " + step + ", p 11", States::full, x -> x.shoe(0, step, 0, 11, 0), UNKNOWN);
            refused("shoe: step " + step + ", part 2", States::full, x -> x.shoe(0, step, 0, 0, 2), UNKNOWN);
        }
        for (int n : new int[] {-1, 9, MIN, MAX}) {
            refused("shoe: n " + n, States::full, x -> x.shoe(5, 4, n, 10, 0), OUTSIDE);
        }
        for (int p : new int[] {-1, 11, MIN, MAX}) {
            refused("shoe: p " + p, States::full, x -> x.shoe(5, 4, 8, p, 1), OUTSIDE);
            refused("shoe: p " + p + ", n 0", States::full, x -> x.shoe(5, 4, 0, p, 1), OUTSIDE);
        }
        for (int part : NO_PART) {
            refused("shoe: part " + part, States::full, x -> x.shoe(0, 0, 8, 10, part), OUTSIDE);
        }
    }

    private static void ofCallOff() {
        for (int n : new int[] {0, -1, 7, MIN, MAX}) {
            refused("callOff: n " + n, States::full, x -> x.callOff(n, 5, 10, 10, 0), OUTSIDE);
        }
        for (int q : new int[] {-1, 11, MIN, MAX}) {
            refused("callOff: q " + q, States::full, x -> x.callOff(6, q, 10, 10, 1), OUTSIDE);
        }
        for (int money : new int[] {-1, 100, MIN, MAX}) {
            refused("callOff: gain " + money, States::full, x -> x.callOff(1, 5, money, 0, 0), OUTSIDE);
            refused("callOff: loss " + money, States::full, x -> x.callOff(1, 5, 99, money, 0), OUTSIDE);
        }
        for (int part : NO_PART) {
            refused("callOff: part " + part, States::full, x -> x.callOff(6, 10, 99, 99, part), OUTSIDE);
        }
    }

    private static void ofSeen() {
        for (int step : NO_STEP) {
            refused("seen(" + step + ", 0), full", States::full, x -> x.seen(step, 0), UNKNOWN);
        }
        for (int mouse : NO_MOUSE) {
            refused("seen(0, " + mouse + "), full", States::full, x -> x.seen(0, mouse), UNKNOWN);
        }
        refused("seen(3, 0), nothing is seen", States::whole, x -> x.seen(3, 0), UNKNOWN);
        refused("seen(0, 2), nothing is seen", States::whole, x -> x.seen(0, 2), UNKNOWN);
        refused("the 7th, another", States::full, x -> x.seen(0, 5), FULL);
        refused("the 7th, alike", States::full, x -> x.seen(4, 3), FULL);
    }

    private static void ofTeams() {
        for (int what : new int[] {-1, 2, MIN, MAX}) {
            refused("teams(" + what + ")", States::full, x -> x.teams(what), OUTSIDE);
            refused("teams(" + what + ") of a new one", NEW, x -> x.teams(what), OUTSIDE);
        }
        for (int step : NO_STEP) {
            refused("teamOf(" + step + ")", States::full, x -> x.teamOf(step), UNKNOWN);
        }
    }

    private static void ofCount() {
        for (int what : new int[] {-1, 11, MIN, MAX}) {
            refused("count(" + what + ")", States::full, x -> x.count(what), OUTSIDE);
            refused("count(" + what + ") of a new one", NEW, x -> x.count(what), OUTSIDE);
        }
    }

    /** "none at first": number 0 is already no such one, and that comes ahead of all that is OUTSIDE. */
    private static void nothingIsThereAtFirst() {
        refused("new: mouse(0, 6)", NEW, x -> x.mouse(0, 6), UNKNOWN);
        refused("new: step(0, 2)", NEW, x -> x.step(0, 2), UNKNOWN);
        refused("new: rat(0, 3)", NEW, x -> x.rat(0, 3), UNKNOWN);
        refused("new: as(0, 5)", NEW, x -> x.as(0, 5), UNKNOWN);
        refused("new: danger(0, 0)", NEW, x -> x.danger(0, 0), UNKNOWN);
        refused("new: put(0, 0)", NEW, x -> x.put(0, 0), UNKNOWN);
        refused("new: fails(0, 2)", NEW, x -> x.fails(0, 2), UNKNOWN);
        refused("new: bestOf(0)", NEW, x -> x.bestOf(0), UNKNOWN);
        refused("new: drawn(0, 2)", NEW, x -> x.drawn(0, 2), UNKNOWN);
        refused("new: alone(0, 2)", NEW, x -> x.alone(0, 2), UNKNOWN);
        refused("new: dread(0, 2)", NEW, x -> x.dread(0, 2), UNKNOWN);
        refused("new: hires(0)", NEW, x -> x.hires(0), UNKNOWN);
        refused("new: shoe(0, 0, 9, 11, 2)", NEW, x -> x.shoe(0, 0, 9, 11, 2), UNKNOWN);
        refused("new: seen(0, 0)", NEW, x -> x.seen(0, 0), UNKNOWN);
        refused("new: teamOf(0)", NEW, x -> x.teamOf(0), UNKNOWN);
        Supplier<BellTheCat> mice = () -> Check.told("plain 1 1 1");
        refused("mice alone: danger(0, 0)", mice, x -> x.danger(0, 0), UNKNOWN);
        refused("mice alone: put(0, 0)", mice, x -> x.put(0, 0), UNKNOWN);
        refused("mice alone: shoe", mice, x -> x.shoe(0, 0, 0, 0, 0), UNKNOWN);
        refused("mice alone: seen(0, 0)", mice, x -> x.seen(0, 0), UNKNOWN);
        Supplier<BellTheCat> steps = () -> Check.told("step 1");
        refused("steps alone: danger(0, 0)", steps, x -> x.danger(0, 0), UNKNOWN);
        refused("steps alone: put(0, 0)", steps, x -> x.put(0, 0), UNKNOWN);
        refused("steps alone: shoe", steps, x -> x.shoe(0, 0, 0, 0, 0), UNKNOWN);
        refused("steps alone: seen(0, 0)", steps, x -> x.seen(0, 0), UNKNOWN);
    }
}
