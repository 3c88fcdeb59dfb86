import java.util.List;
import java.util.function.Supplier;
import java.util.function.ToLongFunction;

/** The edges that section 3 of the document and promises 17 to 30 name, each sentence by a test of its own. */
public final class ForetoldEdgesTest {
    private static final int NONE = BellTheCat.NONE;
    private static final int UNKNOWN = BellTheCat.UNKNOWN;
    private static final int OUTSIDE = BellTheCat.OUTSIDE;
    private static final int NOT = BellTheCat.NOT;

    public static void main(String[] args) {
        nothingChanges();
        foretoldWhileTheBellIsOn();
        teamsWithoutSteps();
        throughAtItsEdges();
        failsAtItsEdges();
        failsAndThroughAreAll();
        lossAtItsEdges();
        foretoldBehindANight();
        bestWithAsManySteps();
        bestWithOneStepMore();
        bestByThoseWhoLive();
        bestOfSeveral();
        bestOfNothing();
        bestAtItsEdges();
        bestOfNobody();
        drawnAtItsEdges();
        drawnWithTheDead();
        drawnWithoutTickets();
        aloneAtItsEdges();
        dreadAtItsEdges();
        ofTheDeadAsIfTheyLived();
        hiresOfOne();
        hiresOfSeveral();
        hiresOfWhoLive();
        restsOfOne();
        restsOfTwo();
        restsWithoutGain();
        restsOfNobody();
        restsOfAll();
        restsByBoundsOfTheFund();
        fundsAtTheirEdges();
        fundsOfNobody();
        ratsAtTheirEdges();
        ratsOfSeveral();
        shoeByHowOften();
        shoeByTenths();
        shoeNineAtMost();
        shoeByKinds();
        callOffByNights();
        callOffByTenths();
        callOffAtNothing();
        callOffByItsOwnGain();
        Check.end();
    }

    private static BellTheCat team(String text, int... doers) {
        BellTheCat cat = Check.told(text);
        for (int s = 0; s < doers.length; s++) {
            cat.put(s, doers[s]);
        }
        return cat;
    }

    /* Mice who are put at a step of danger 10 to them are caught there, by each number. */
    private static BellTheCat kill(BellTheCat cat, int... mice) {
        for (int mouse : mice) {
            for (int s = 0; s < cat.count(1); s++) {
                cat.put(s, mouse);
            }
            Check.due("he is caught", mouse, cat.night(0));
            cat.clear();
        }
        return cat;
    }

    private static void parts(String told, long above, long below, BellTheCat cat, ToLongFunction<BellTheCat> first,
            ToLongFunction<BellTheCat> second) {
        Check.parts(told, above, below, first.applyAsLong(cat), second.applyAsLong(cat));
    }

    private static void through(String told, long above, long below, BellTheCat cat) {
        parts("through of " + told, above, below, cat, x -> x.through(0), x -> x.through(1));
    }

    private static void loss(String told, long above, long below, BellTheCat cat) {
        parts("loss of " + told, above, below, cat, x -> x.loss(0), x -> x.loss(1));
    }

    private static void fails(String told, int step, long above, long below, BellTheCat cat) {
        parts("fails(" + step + ") of " + told, above, below, cat, x -> x.fails(step, 0), x -> x.fails(step, 1));
    }

    // ---- "FORETOLD (nothing changes; ..)"

    private static void nothingChanges() {
        List<Supplier<BellTheCat>> states = List.of(States::full, States::whole, States::belled);
        for (Supplier<BellTheCat> state : states) {
            Check.foretells("best(0)", state, x -> x.best(0));
            Check.foretells("bestOf(1)", state, x -> x.bestOf(1));
            Check.foretells("drawn(1, 1)", state, x -> x.drawn(1, 1));
            Check.foretells("alone(0, 0)", state, x -> x.alone(0, 0));
            Check.foretells("dread(0, 0)", state, x -> x.dread(0, 0));
            Check.foretells("hires(1)", state, x -> x.hires(1));
            Check.foretells("rests(5, 0)", state, x -> x.rests(5, 0));
            Check.foretells("rests(5, 1)", state, x -> x.rests(5, 1));
            Check.foretells("fund()", state, x -> x.fund());
            Check.foretells("rats(0)", state, x -> x.rats(0));
            Check.foretells("rats(1)", state, x -> x.rats(1));
            Check.foretells("shoe(0, 0, 8, 5, 0)", state, x -> x.shoe(0, 0, 8, 5, 0));
            Check.foretells("callOff(6, 5, 50, 5, 0)", state, x -> x.callOff(6, 5, 50, 5, 0));
            Check.foretells("teams(0)", state, x -> x.teams(0));
            Check.foretells("teams(1)", state, x -> x.teams(1));
            Check.foretells("teamOf(0)", state, x -> x.teamOf(0));
            Check.foretells("danger(0, 0)", state, x -> x.danger(0, 0));
            Check.foretells("as(0, 0)", state, x -> x.as(0, 0));
        }
        Check.foretells("through(0)", States::whole, x -> x.through(0));
        Check.foretells("fails(2, 0)", States::whole, x -> x.fails(2, 0));
        Check.foretells("loss(1)", States::whole, x -> x.loss(1));
    }

    /** Only that THE TEAM is not WHOLE refuses these; the BELL does not. */
    private static void foretoldWhileTheBellIsOn() {
        BellTheCat cat = States.belled();
        through("the belled", 1, 1, cat);
        fails("the belled", 1, 0, 1, cat);
        loss("the belled", 0, 1, cat);
    }

    // ---- promises 17 to 19

    private static void teamsWithoutSteps() {
        for (BellTheCat cat : new BellTheCat[] {new BellTheCat(), Check.told("coward0 99 0")}) {
            through("no steps", 1, 1, cat);
            loss("no steps", 0, 1, cat);
            Check.due("fails(0, 0) of no steps", UNKNOWN, cat.fails(0, 0));
            Check.due("through(2) of no steps", OUTSIDE, cat.through(2));
            Check.due("loss(-1) of no steps", OUTSIDE, cat.loss(-1));
        }
    }

    /** "Parts are told in lowest terms: above (part 0), below (1)." */
    private static void throughAtItsEdges() {
        String five = ";step9;step9;step9;step9;step9";
        through("danger 0", 1, 1, team("plain9 99 0" + five, 0, 0, 0, 0, 0));
        through("danger 9", 1, 100000, team("plain0 99 0" + five, 0, 0, 0, 0, 0));
        through("danger 10", 0, 1, team("coward9 99 0" + five, 0, 0, 0, 0, 0));
        through("danger 10 at the last", 0, 1, team("coward9 9 0;plain9 9 0" + five, 1, 1, 1, 1, 0));
        through("danger 10 at the first", 0, 1, team("coward9 9 0;plain9 9 0" + five, 0, 1, 1, 1, 1));
        through("danger 5", 1, 2, team("plain0 1 1;step5", 0));
        through("danger 8", 1, 5, team("plain0 1 1;step8", 0));
        through("danger 7", 3, 10, team("plain0 1 1;step7", 0));
        through("danger 5 four times", 1, 16, team("plain0 1 1;step5;step5;step5;step5", 0, 0, 0, 0));
        through("danger 8 five times", 1, 3125, team("plain1 1 1" + five, 0, 0, 0, 0, 0));
        through("danger 1 five times", 59049, 100000, team("plain8 1 1" + five, 0, 0, 0, 0, 0));
    }

    private static void failsAtItsEdges() {
        String five = ";step9;step9;step9;step9;step9";
        BellTheCat last = team("coward9 9 0;plain9 9 0" + five, 1, 1, 1, 1, 0);
        for (int s = 0; s < 4; s++) {
            fails("the last alone", s, 0, 1, last);
        }
        fails("the last alone", 4, 1, 1, last);
        BellTheCat first = team("coward9 9 0;plain0 9 0" + five, 0, 1, 1, 1, 1);
        fails("the first alone", 0, 1, 1, first);
        for (int s = 1; s < 5; s++) {
            fails("the first alone", s, 0, 1, first);
        }
        BellTheCat all = team("plain0 9 0" + five, 0, 0, 0, 0, 0);
        fails("danger 9", 0, 9, 10, all);
        fails("danger 9", 1, 9, 100, all);
        fails("danger 9", 4, 9, 100000, all);
        Check.due("fails(5, 0)", UNKNOWN, all.fails(5, 0));
        Check.due("fails(-1, 0)", UNKNOWN, all.fails(-1, 0));
    }

    /** They fail at one of the STEPS, or come through: all together is 1. */
    private static void failsAndThroughAreAll() {
        BellTheCat cat = team("plain3 50 0;deaf4 60 0;brave2 70 0;step4;step6;step9;step5;step7", 0, 1, 2, 0, 1);
        Fraction all = Fraction.of(cat.through(0), cat.through(1));
        for (int s = 0; s < 5; s++) {
            all = all.plus(Fraction.of(cat.fails(s, 0), cat.fails(s, 1)));
        }
        Check.parts("all", 1, 1, all.part(0), all.part(1));
    }

    private static void lossAtItsEdges() {
        String five = ";step9;step9;step9;step9;step9";
        loss("fear 0", 0, 1, team("coward9 0 0" + five, 0, 0, 0, 0, 0));
        loss("fear 99, danger 10", 99, 1, team("coward9 99 0" + five, 0, 0, 0, 0, 0));
        loss("fear 99, danger 0", 0, 1, team("plain9 99 0" + five, 0, 0, 0, 0, 0));
        loss("fear 99, danger 9", 9899901, 100000, team("plain0 99 0" + five, 0, 0, 0, 0, 0));
        loss("fear 99 behind fear 0", 0, 1, team("coward9 0 0;plain0 99 0;step9;step9", 0, 1));
        loss("fear 99 at the last", 891, 100, team("plain0 0 0;plain0 99 0;step9;step9", 0, 1));
        loss("fear 10 and 20", 15, 1, team("plain0 10 0;coward0 20 0;step5;step6", 0, 1));
        loss("a third is not told of tenths", 3, 10, team("plain0 1 0;step3", 0));
    }

    private static void foretoldBehindANight() {
        BellTheCat cat = team("coward0 1 1;plain9 1 1;step6;step9", 0, 1);
        through("ahead of the night", 0, 1, cat);
        Check.due("he is caught", 0, cat.night(0));
        Check.due("through(0), not whole", NOT, cat.through(0));
        Check.due("fails(1, 0), not whole", NOT, cat.fails(1, 0));
        Check.due("loss(0), not whole", NOT, cat.loss(0));
        cat.put(0, 1);
        through("whole again", 1, 1, cat);
    }

    // ---- promises 20 and 21

    private static void best(String told, BellTheCat cat, long above, long below, int... doers) {
        parts("best of " + told, above, below, cat, x -> x.best(0), x -> x.best(1));
        for (int s = 0; s < doers.length; s++) {
            Check.due("bestOf(" + s + ") of " + told, doers[s], cat.bestOf(s));
        }
        Check.due("bestOf(" + doers.length + ") of " + told, UNKNOWN, cat.bestOf(doers.length));
    }

    /** "each MOUSE does one STEP at most": with as many STEPS as MICE who live it is still so. */
    private static void bestWithAsManySteps() {
        best("1 and 1", Check.told("plain0 1 1;step9"), 1, 10, 0);
        best("2 and 2", Check.told("plain9 1 1;plain0 1 1;step9;step9"), 1, 10, 0, 1);
        best("5 and 5", Check.told("plain9 1 1;plain0 1 1;plain0 1 1;plain0 1 1;plain0 1 1;"
            + "step5;step5;step5;step5;step5"), 1, 16, 0, 1, 2, 3, 4);
        best("6 and 5", Check.told("plain0 1 1;plain0 1 1;plain0 1 1;plain0 1 1;plain0 1 1;plain9 1 1;"
            + "step5;step5;step5;step5;step5"), 1, 16, 0, 1, 2, 3, 5);
    }

    /** "or, if there are more STEPS than MICE who live, as many as he likes" */
    private static void bestWithOneStepMore() {
        best("1 and 2", Check.told("plain8 1 1;step9;step9"), 81, 100, 0, 0);
        best("2 and 3", Check.told("plain9 1 1;plain0 1 1;step9;step9;step9"), 1, 1, 0, 0, 0);
        best("4 and 5", Check.told("plain0 1 1;plain0 1 1;plain0 1 1;plain9 1 1;step5;step5;step5;step5;step5"),
            1, 1, 3, 3, 3, 3, 3);
        best("not all of them", Check.told("plain3 1 1;plain5 1 1;step3;step5;step9"), 3, 5, 0, 1, 1);
    }

    /** MICE who live are counted, not all: one dead makes the STEPS more than they. */
    private static void bestByThoseWhoLive() {
        String three = "plain9 1 1;plain0 1 1;coward9 1 1;step9;step9";
        best("3 live, 2 steps", Check.told(three), 1, 10, 0, 1);
        best("2 live, 2 steps", kill(Check.told(three), 2), 1, 10, 0, 1);
        BellTheCat one = kill(Check.told("plain9 1 1;coward9 1 1;coward9 1 1;step9;step9"), 1, 2);
        best("1 lives, 2 steps", one, 1, 1, 0, 0);
        BellTheCat last = kill(Check.told("coward0 1 1;plain8 1 1;plain8 1 1;step9;step9"), 0);
        best("not the dead one", last, 81, 100, 1, 2);
        last.undo();
        last.undo();
        last.undo();
        best("he lives again", last, 81, 100, 1, 2);
        Check.due("he lives", 7, last.count(5));
    }

    /** "of several the first (by STEPS, lesser MICE first)" */
    private static void bestOfSeveral() {
        best("three alike", Check.told("plain1 1 1;plain1 1 1;plain1 1 1;step3;step3"), 16, 25, 0, 1);
        best("six alike", Check.told("plain1 1 1;plain1 1 1;plain1 1 1;plain1 1 1;plain1 1 1;plain1 1 1;"
            + "step1;step1;step1;step1;step1"), 1, 1, 0, 1, 2, 3, 4);
        best("two alike, more steps", Check.told("plain1 1 1;plain1 1 1;step2;step2;step2"), 729, 1000, 0, 0, 0);
        best("the first step decides", Check.told("plain4 1 1;plain4 1 1;plain9 1 1;step9;step9"), 1, 2, 0, 2);
        /* Two ways of the same odds, 8 tenths of 5 and 5 tenths of 8. */
        best("by other ways alike", Check.told("plain5 1 1;plain8 1 1;step10;step10"), 2, 5, 0, 1);
        best("the second step decides", Check.told("plain9 1 1;plain5 1 1;plain5 1 1;step9;step5"), 1, 1, 0, 1);
    }

    /** Where each THROUGH is 0, 0 is the greatest, and the first of all has it. */
    private static void bestOfNothing() {
        best("cowards", Check.told("coward9 1 1;coward9 1 1;step6;step6"), 0, 1, 0, 1);
        best("cowards, more steps", Check.told("coward9 1 1;coward9 1 1;step6;step6;step0"), 0, 1, 0, 0, 0);
        best("cowards at the last", Check.told("coward9 1 1;coward9 1 1;coward9 1 1;step0;step0;step6"), 0, 1, 0, 1, 2);
        best("one of them can", Check.told("coward9 1 1;plain0 1 1;step6;step5"), 2, 5, 1, 0);
    }

    private static void bestAtItsEdges() {
        best("danger 9 five times", Check.told("plain0 1 1;step9;step9;step9;step9;step9"), 1, 100000, 0, 0, 0, 0, 0);
        best("the last order of five", Check.told("plain4 1 1;plain3 1 1;plain2 1 1;plain1 1 1;plain0 1 1;"
            + "step0;step1;step2;step3;step4"), 1, 1, 4, 3, 2, 1, 0);
        best("no steps", Check.told("plain1 1 1"), 1, 1);
        BellTheCat cat = Check.told("plain0 1 1;plain9 1 1;step9");
        Check.due("bestOf(0), best() was not asked", 1, cat.bestOf(0));
        Check.tell(cat, "step 9");
        Check.due("bestOf(1) behind another text", 1, cat.bestOf(1));
        Check.due("bestOf(-1)", UNKNOWN, Check.told("plain1 1 1;step1").bestOf(-1));
    }

    /** "NOT: nobody lives, there are STEPS"; "NONE: nobody lives" */
    private static void bestOfNobody() {
        BellTheCat none = Check.told("step0;step15");
        Check.due("no mice: best(0)", NOT, none.best(0));
        Check.due("no mice: best(1)", NOT, none.best(1));
        Check.due("no mice: bestOf(0)", NONE, none.bestOf(0));
        Check.due("no mice: bestOf(1)", NONE, none.bestOf(1));
        Check.due("no mice: bestOf(2)", UNKNOWN, none.bestOf(2));
        BellTheCat dead = kill(Check.told("coward9 1 1;coward9 1 1;step6"), 0, 1);
        Check.due("the dead: best(0)", NOT, dead.best(0));
        Check.due("the dead: bestOf(0)", NONE, dead.bestOf(0));
        best("nobody, no steps", new BellTheCat(), 1, 1);
    }

    // ---- promise 22

    private static void drawn(String told, BellTheCat cat, int mouse, long above, long below) {
        parts("drawn(" + mouse + ") of " + told, above, below, cat, x -> x.drawn(mouse, 0), x -> x.drawn(mouse, 1));
    }

    private static void drawnAtItsEdges() {
        drawn("one", Check.told("plain0 0 1"), 0, 1, 1);
        drawn("one of nine", Check.told("plain0 0 9"), 0, 1, 1);
        BellTheCat six = Check.told("plain0 0 9;plain0 0 9;plain0 0 9;plain0 0 9;plain0 0 9;plain0 0 9");
        for (int m = 0; m < 6; m++) {
            drawn("six alike", six, m, 1, 6);
        }
        BellTheCat most = Check.told("plain0 0 9;plain0 0 9;plain0 0 9;plain0 0 9;plain0 0 9;plain0 0 8");
        drawn("the most tickets", most, 0, 9, 53);
        drawn("the most tickets", most, 5, 8, 53);
        BellTheCat some = Check.told("plain0 0 0;plain0 0 1");
        drawn("none of one", some, 0, 0, 1);
        drawn("one of one", some, 1, 1, 1);
    }

    /** "(of one who does not live: 0)" */
    private static void drawnWithTheDead() {
        BellTheCat cat = kill(Check.told("coward0 0 9;plain0 0 1;plain0 0 3;step6"), 0);
        drawn("the dead", cat, 0, 0, 1);
        drawn("who live", cat, 1, 1, 4);
        drawn("who live", cat, 2, 3, 4);
    }

    /** "NOT: those who live have no TICKETS" */
    private static void drawnWithoutTickets() {
        BellTheCat none = Check.told("plain0 0 0;plain0 0 0");
        Check.due("drawn(0, 0)", NOT, none.drawn(0, 0));
        Check.due("drawn(1, 1)", NOT, none.drawn(1, 1));
        Check.due("drawn(1, 2)", OUTSIDE, none.drawn(1, 2));
        Check.due("drawn(2, 0)", UNKNOWN, none.drawn(2, 0));
        BellTheCat dead = States.ticketless();
        Check.due("drawn(0, 0), the dead had them", NOT, dead.drawn(0, 0));
        dead.undo();
        drawn("he lives again", dead, 0, 1, 1);
    }

    // ---- promises 23 to 25

    private static void alone(String told, BellTheCat cat, int mouse, long above, long below) {
        parts("alone(" + mouse + ") of " + told, above, below, cat, x -> x.alone(mouse, 0), x -> x.alone(mouse, 1));
    }

    private static void dread(String told, BellTheCat cat, int mouse, long above, long below) {
        parts("dread(" + mouse + ") of " + told, above, below, cat, x -> x.dread(mouse, 0), x -> x.dread(mouse, 1));
    }

    private static void aloneAtItsEdges() {
        alone("no steps", Check.told("coward0 99 0"), 0, 0, 1);
        String five = ";step9;step9;step9;step9;step9";
        alone("danger 0", Check.told("plain9 1 1" + five), 0, 0, 1);
        alone("danger 1", Check.told("plain8 1 1" + five), 0, 40951, 100000);
        alone("danger 9", Check.told("plain0 1 1" + five), 0, 99999, 100000);
        alone("danger 10", Check.told("coward9 1 1" + five), 0, 1, 1);
        alone("danger 10 once", Check.told("coward9 1 1;step5;step6;step5"), 0, 1, 1);
        alone("two steps", Check.told("plain0 1 1;step5;step8"), 0, 9, 10);
    }

    private static void dreadAtItsEdges() {
        dread("no steps", Check.told("coward0 99 0"), 0, 0, 1);
        String five = ";step9;step9;step9;step9;step9";
        dread("fear 0", Check.told("coward9 0 1" + five), 0, 0, 1);
        dread("fear 99, danger 0", Check.told("plain9 99 1" + five), 0, 0, 1);
        dread("fear 99, danger 9", Check.told("plain0 99 1" + five), 0, 9899901, 100000);
        dread("fear 99, danger 10", Check.told("coward9 99 1" + five), 0, 99, 1);
        dread("fear 1, danger 1", Check.told("plain8 1 1;step9"), 0, 1, 10);
        dread("fear 10, danger 1", Check.told("plain8 10 1;step9"), 0, 1, 1);
        dread("fear 15, danger 1", Check.told("plain8 15 1;step9"), 0, 3, 2);
    }

    /** "DANGER, ALONE, DREAD, SHOE of one who does not live are told as if he did" */
    private static void ofTheDeadAsIfTheyLived() {
        BellTheCat cat = team("plain0 50 1;plain9 1 1;step9;step1", 0, 1);
        int danger = cat.danger(0, 0);
        Check.due("he is caught", 0, cat.night(0));
        Check.due("danger", danger, cat.danger(0, 0));
        Check.due("danger of the other step", 1, cat.danger(1, 0));
        alone("the dead", cat, 0, 91, 100);
        dread("the dead", cat, 0, 91, 2);
        Check.due("shoe", 1, cat.shoe(0, 1, 1, 5, 0));
        Check.due("shoe, below", 2, cat.shoe(0, 1, 1, 5, 1));
        BellTheCat extinct = States.extinct();
        alone("the only one, dead", extinct, 0, 9, 10);
        dread("the only one, dead", extinct, 0, 9, 1);
    }

    /** "himself, if there is none" */
    private static void hiresOfOne() {
        Check.due("the only one", 0, Check.told("coward0 99 0;step6").hires(0));
        Check.due("no steps", 1, Check.told("coward0 99 0;plain9 0 0").hires(1));
        Check.due("no steps, nobody has dread", 0, Check.told("coward0 99 0;plain9 0 0").hires(0));
    }

    /** "who has the least DREAD of all, if that is less than his own; of several the least" */
    private static void hiresOfSeveral() {
        BellTheCat alike = Check.told("coward0 5 0;plain5 10 0;coward0 5 0;step10");
        for (int m = 0; m < 3; m++) {
            Check.due("alike by other ways: hires(" + m + ")", m, alike.hires(m));
        }
        BellTheCat apart = Check.told("coward0 6 0;coward0 5 0;coward0 4 0;coward0 4 0;coward0 5 0;step6");
        int[] want = {2, 2, 2, 3, 2};
        for (int m = 0; m < 5; m++) {
            Check.due("hires(" + m + ")", want[m], apart.hires(m));
        }
        BellTheCat last = Check.told("coward0 6 0;coward0 6 0;coward0 6 0;coward0 6 0;coward0 6 0;coward0 5 0;step6");
        for (int m = 0; m < 6; m++) {
            Check.due("hires(" + m + ") the last", 5, last.hires(m));
        }
        /* 98.99901 and 99 are not the same. */
        BellTheCat near = Check.told("coward9 99 1;plain0 99 1;step9;step9;step9;step9;step9");
        Check.due("hires(0) by a little", 1, near.hires(0));
        Check.due("hires(1) by a little", 1, near.hires(1));
    }

    private static void hiresOfWhoLive() {
        BellTheCat cat = kill(Check.told("coward0 1 0;coward0 3 0;coward0 2 0;step6"), 0);
        Check.due("hires(1), not the dead", 2, cat.hires(1));
        Check.due("hires(2), not the dead", 2, cat.hires(2));
        Check.due("hires(0), who is dead", NOT, cat.hires(0));
        Check.due("hires(3)", UNKNOWN, cat.hires(3));
    }

    // ---- promises 26 and 27

    private static void rests(String told, BellTheCat cat, int fund, int sets, int least) {
        Check.due("rests(" + fund + ", 0) of " + told, sets, cat.rests(fund, 0));
        Check.due("rests(" + fund + ", 1) of " + told, least, cat.rests(fund, 1));
    }

    /** "no one of it had better not be in it, and nobody else had better be in it": neither, when both are alike. */
    private static void restsOfOne() {
        BellTheCat alike = Check.told("coward0 20 0;step6");
        rests("dread 20, gain 20", alike, 0, 2, 0);
        rests("dread 20, gain 20", alike, 1, 1, 1);
        BellTheCat more = Check.told("coward0 21 0;step6");
        rests("dread 21, gain 20", more, 0, 1, 0);
        rests("dread 21, gain 20", more, 1, 2, 0);
        rests("dread 21, gain 20", more, 2, 1, 1);
        rests("dread 21, gain 20, by nothing again", more, 0, 1, 0);
        BellTheCat less = Check.told("coward0 19 0;step6");
        rests("dread 19, gain 20", less, 0, 1, 1);
    }

    private static void restsOfTwo() {
        BellTheCat alike = Check.told("coward0 20 0;coward0 20 0;step6");
        rests("two of dread 20", alike, 0, 3, 0);
        rests("two of dread 20", alike, 1, 2, 1);
        rests("two of dread 20", alike, 19, 2, 1);
        rests("two of dread 20", alike, 20, 3, 1);
        rests("two of dread 20", alike, 21, 1, 3);
        BellTheCat apart = Check.told("coward0 20 0;coward0 10 0;step6");
        rests("dread 20 and 10", apart, 0, 2, 1);
        rests("dread 20 and 10", apart, 9, 2, 1);
        rests("dread 20 and 10", apart, 10, 2, 1);
        rests("dread 20 and 10", apart, 11, 1, 2);
        rests("dread 20 and 10", apart, 20, 2, 2);
        rests("dread 20 and 10", apart, 21, 1, 3);
        rests("dread 20 and 10, a lesser fund again", apart, 0, 2, 1);
        rests("dread 20 and 10, and more again", apart, 11, 1, 2);
    }

    private static void restsWithoutGain() {
        BellTheCat cat = Check.told("coward0 5 0;coward0 5 0;step6;gain 0");
        rests("no gain", cat, 0, 1, 0);
        rests("no gain", cat, 4, 1, 0);
        rests("no gain", cat, 5, 4, 0);
        rests("no gain", cat, 6, 1, 3);
    }

    /** Of those who live: with nobody only the empty set is there, and it rests. */
    private static void restsOfNobody() {
        rests("no mice", new BellTheCat(), 0, 1, 0);
        rests("no mice", new BellTheCat(), 99, 1, 0);
        rests("all dead", States.extinct(), 99, 1, 0);
        BellTheCat cat = kill(Check.told("coward0 1 0;coward0 5 0;step6"), 0);
        rests("who live", cat, 0, 1, 2);
        rests("who live", cat, 99, 1, 2);
    }

    private static void restsOfAll() {
        String six = "plain0 0 0;plain0 0 0;plain0 0 0;plain0 0 0;plain0 0 0;plain0 0 0;step9;gain";
        rests("all alike", Check.told(six + "0"), 0, 64, 0);
        rests("all alike", Check.told(six + "1"), 0, 63, 1);
        rests("all glad", Check.told(six + "1"), 1, 1, 63);
        rests("all glad, no gain", Check.told(six + "0"), 1, 1, 63);
    }

    /** "a FUND (0 .. 99)" */
    private static void restsByBoundsOfTheFund() {
        BellTheCat cat = Check.told("coward0 99 0;step6;gain 0");
        rests("dread 99, no gain", cat, 0, 1, 0);
        rests("dread 99, no gain", cat, 98, 1, 0);
        rests("dread 99, no gain", cat, 99, 2, 0);
        Check.due("rests(100, 0)", OUTSIDE, cat.rests(100, 0));
        Check.due("rests(-1, 0)", OUTSIDE, cat.rests(-1, 0));
        Check.due("rests(99, 2)", OUTSIDE, cat.rests(99, 2));
        Check.due("rests(0, -1)", OUTSIDE, cat.rests(0, -1));
        rests("dread 99, gain 99", Check.told("coward0 99 0;step6;gain 99"), 0, 2, 0);
        rests("dread 99, gain 99", Check.told("coward0 99 0;step6;gain 99"), 1, 1, 1);
    }

    /** "FUND: the least by which a set that is not empty RESTS" */
    private static void fundsAtTheirEdges() {
        int[][] dreadGainFund = {{20, 20, 0}, {21, 20, 1}, {99, 0, 99}, {98, 0, 98}, {99, 1, 98}, {99, 99, 0},
            {99, 98, 1}, {0, 0, 0}, {1, 0, 1}, {1, 1, 0}};
        for (int[] row : dreadGainFund) {
            BellTheCat cat = Check.told("coward0 " + row[0] + " 0;step6;gain " + row[1]);
            Check.due("fund() by dread " + row[0] + ", gain " + row[1], row[2], cat.fund());
            int least = cat.rests(row[2], 0) == 2 ? 0 : 1;
            Check.due("by it he rests", least, cat.rests(row[2], 1));
        }
        Check.due("fund() of a half", 1, Check.told("plain0 1 0;step5;gain 0").fund());
        Check.due("fund() of 98.99901", 99,
            Check.told("plain0 99 0;step9;step9;step9;step9;step9;gain 0").fund());
        Check.due("fund() of two alike", 50, Check.told("coward0 50 0;coward0 50 0;step6;gain 0").fund());
        Check.due("fund() of the lesser", 40, Check.told("coward0 50 0;coward0 40 0;step6;gain 0").fund());
        Check.due("fund() without steps", 0, Check.told("coward0 99 0;gain 0").fund());
        Check.due("fund() without steps, by the gain at first", 0, Check.told("plain0 99 0").fund());
    }

    /** "none up to 99" */
    private static void fundsOfNobody() {
        Check.due("fund() of no mice", NONE, new BellTheCat().fund());
        Check.due("fund() of no mice, steps", NONE, Check.told("step9;gain99").fund());
        Check.due("fund() of the dead", NONE, States.extinct().fund());
        BellTheCat cat = kill(Check.told("coward0 1 0;coward0 50 0;step6;gain 0"), 0);
        Check.due("fund() of who lives", 50, cat.fund());
    }

    // ---- promise 28

    private static void rats(String text, int which, int much) {
        BellTheCat cat = Check.told(text);
        Check.due("rats(0) of " + text, which, cat.rats(0));
        Check.due("rats(1) of " + text, much, cat.rats(1));
        Check.due("rats(2) of " + text, OUTSIDE, cat.rats(2));
        Check.due("rats(-1) of " + text, OUTSIDE, cat.rats(-1));
    }

    /** "if that is above 0" */
    private static void ratsAtTheirEdges() {
        rats("house", NONE, NONE);
        rats("rat 1 10 10;gain 1", NONE, NONE);
        rats("rat 1 10 10;gain 2", 0, 100);
        rats("rat 0 1 1;gain 1", 0, 1);
        rats("rat 0 1 1;gain 0", NONE, NONE);
        rats("rat 0 0 10;gain 99", NONE, NONE);
        rats("rat 0 10 0;gain 99", NONE, NONE);
        rats("rat 0 10 10;gain 99", 0, 9900);
        rats("rat 98 10 10;gain 99", 0, 100);
        rats("rat 99 10 10;gain 99", NONE, NONE);
        rats("rat 99 0 0;gain 0", NONE, NONE);
        rats("rat 5 7 8;gain 9", 0, 4);
        rats("rat 2 10 10", 0, 1800);
    }

    /** "the one by whom it is most ..; of several the least" */
    private static void ratsOfSeveral() {
        rats("rat 1 10 10;rat 1 10 10;rat 1 10 10;rat 1 10 10", 0, 1900);
        rats("rat 2 10 10;rat 1 10 10;rat 1 10 10;rat 3 10 10", 1, 1900);
        rats("rat 99 1 1;rat 99 1 1;rat 99 1 1;rat 0 1 1;gain 1", 3, 1);
        rats("rat 99 1 1;rat 98 1 1;rat 97 1 1;rat 1 10 10;gain 1", NONE, NONE);
        rats("rat 0 2 3;rat 0 3 2;rat 0 6 1;rat 0 1 6;gain 10", 0, 60);
    }

    // ---- promise 29

    private static void shoe(BellTheCat cat, int mouse, int step, int n, int p, long above, long below) {
        Check.parts("shoe(" + mouse + ", " + step + ", " + n + ", " + p + ")", above, below,
            cat.shoe(mouse, step, n, p, 0), cat.shoe(mouse, step, n, p, 1));
    }

    /** "practises n times (0 .. 8)" */
    private static void shoeByHowOften() {
        BellTheCat cat = Check.told("plain1 0 0;step1;step2;step5;step9");
        shoe(cat, 0, 0, 0, 0, 1, 1);
        shoe(cat, 0, 0, 8, 5, 1, 1);
        shoe(cat, 0, 1, 0, 10, 0, 1);
        shoe(cat, 0, 1, 1, 5, 1, 2);
        shoe(cat, 0, 1, 8, 1, 56953279, 100000000);
        shoe(cat, 0, 2, 3, 10, 0, 1);
        shoe(cat, 0, 2, 4, 10, 1, 1);
        shoe(cat, 0, 2, 8, 5, 163, 256);
        shoe(cat, 0, 3, 7, 10, 0, 1);
        shoe(cat, 0, 3, 8, 10, 1, 1);
        shoe(cat, 0, 3, 8, 1, 1, 100000000);
        Check.due("n 9", OUTSIDE, cat.shoe(0, 3, 9, 10, 0));
        Check.due("n -1", OUTSIDE, cat.shoe(0, 3, -1, 10, 0));
    }

    /** "by p tenths (0 .. 10)" */
    private static void shoeByTenths() {
        BellTheCat cat = Check.told("plain1 0 0;step2");
        shoe(cat, 0, 0, 8, 0, 0, 1);
        shoe(cat, 0, 0, 1, 1, 1, 10);
        shoe(cat, 0, 0, 1, 9, 9, 10);
        shoe(cat, 0, 0, 1, 10, 1, 1);
        shoe(cat, 0, 0, 8, 9, 99999999, 100000000);
        shoe(cat, 0, 0, 8, 10, 1, 1);
        Check.due("p 11", OUTSIDE, cat.shoe(0, 0, 8, 11, 0));
        Check.due("p -1", OUTSIDE, cat.shoe(0, 0, 8, -1, 0));
    }

    /** "(9 at most)" */
    private static void shoeNineAtMost() {
        BellTheCat cat = Check.told("plain9 0 0;plain8 0 0;brave8 0 0;brave9 0 0;step9;step10;step11;step15");
        shoe(cat, 0, 0, 8, 10, 1, 1);
        shoe(cat, 0, 1, 8, 10, 0, 1);
        shoe(cat, 1, 0, 1, 10, 1, 1);
        shoe(cat, 1, 1, 2, 10, 0, 1);
        shoe(cat, 1, 1, 8, 5, 0, 1);
        shoe(cat, 2, 1, 1, 10, 1, 1);
        shoe(cat, 2, 2, 8, 10, 0, 1);
        shoe(cat, 3, 1, 0, 0, 1, 1);
        shoe(cat, 3, 3, 8, 10, 0, 1);
    }

    /** "for a STEP to be of DANGER 0 to him": by his own kind. */
    private static void shoeByKinds() {
        BellTheCat cat = Check.told("deaf3 0 0;coward3 0 0;brave3 0 0;step4;step5;step6;step3");
        shoe(cat, 0, 0, 0, 5, 0, 1);
        shoe(cat, 0, 0, 1, 5, 1, 2);
        shoe(cat, 0, 3, 0, 0, 1, 1);
        shoe(cat, 1, 1, 2, 10, 1, 1);
        shoe(cat, 1, 1, 2, 5, 1, 4);
        shoe(cat, 1, 2, 8, 10, 0, 1);
        shoe(cat, 2, 0, 0, 0, 1, 1);
        shoe(cat, 2, 1, 1, 5, 1, 2);
        shoe(cat, 2, 2, 2, 5, 1, 4);
    }

    // ---- promise 30

    private static void callOff(int n, int q, int gain, int loss, long above, long below) {
        BellTheCat cat = new BellTheCat();
        Check.parts("callOff(" + n + ", " + q + ", " + gain + ", " + loss + ")", above, below,
            cat.callOff(n, q, gain, loss, 0), cat.callOff(n, q, gain, loss, 1));
    }

    /** "n nights (1 .. 6) to come" */
    private static void callOffByNights() {
        callOff(1, 9, 99, 99, 396, 5);
        callOff(2, 9, 99, 99, 2178, 25);
        callOff(6, 9, 99, 99, 10999989, 125000);
        callOff(6, 1, 99, 0, 46387341, 1000000);
        BellTheCat cat = new BellTheCat();
        Check.due("n 0", OUTSIDE, cat.callOff(0, 9, 99, 99, 0));
        Check.due("n 7", OUTSIDE, cat.callOff(7, 9, 99, 99, 0));
    }

    /** "by q tenths it is done" */
    private static void callOffByTenths() {
        for (int n = 1; n <= 6; n++) {
            callOff(n, 0, 99, 0, 0, 1);
            callOff(n, 0, 99, 99, 0, 1);
            callOff(n, 10, 99, 99, 99, 1);
            callOff(n, 10, 0, 99, 0, 1);
        }
        BellTheCat cat = new BellTheCat();
        Check.due("q 11", OUTSIDE, cat.callOff(1, 11, 99, 99, 0));
        Check.due("q -1", OUTSIDE, cat.callOff(1, -1, 99, 99, 0));
    }

    /** "(0 at least)": one stops where to go on would cost. */
    private static void callOffAtNothing() {
        for (int n = 1; n <= 6; n++) {
            callOff(n, 5, 10, 10, 0, 1);
            callOff(n, 5, 9, 10, 0, 1);
            callOff(n, 5, 0, 0, 0, 1);
            callOff(n, 1, 99, 11, 0, 1);
            callOff(n, 1, 0, 99, 0, 1);
        }
        callOff(1, 5, 11, 10, 1, 2);
        callOff(2, 5, 11, 10, 3, 4);
        callOff(1, 1, 99, 10, 9, 10);
        callOff(1, 5, 99, 98, 1, 2);
    }

    /** "for a gain told (0 .. 99)", "a loss told (0 .. 99)": not the GAIN of the house. */
    private static void callOffByItsOwnGain() {
        BellTheCat cat = Check.told("gain 1");
        Check.due("gain 99", 99, cat.callOff(1, 10, 99, 0, 0));
        Check.due("gain 0", 0, cat.callOff(1, 10, 0, 0, 0));
        Check.due("gain 100", OUTSIDE, cat.callOff(1, 10, 100, 0, 0));
        Check.due("gain -1", OUTSIDE, cat.callOff(1, 10, -1, 0, 0));
        Check.due("loss 99", 0, cat.callOff(1, 0, 0, 99, 0));
        Check.due("loss 100", OUTSIDE, cat.callOff(1, 0, 0, 100, 0));
        Check.due("loss -1", OUTSIDE, cat.callOff(1, 0, 0, -1, 0));
        Check.due("part 2", OUTSIDE, cat.callOff(1, 0, 0, 0, 2));
        Check.due("part -1", OUTSIDE, cat.callOff(1, 0, 0, 0, -1));
    }
}
