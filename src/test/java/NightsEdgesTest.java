import java.lang.reflect.Field;
import java.math.BigInteger;

/** The edges that section 2 of the document and promises 11 to 16 name, each sentence by a test of its own. */
public final class NightsEdgesTest {
    private static final int NONE = BellTheCat.NONE;
    private static final int OUTSIDE = BellTheCat.OUTSIDE;
    private static final int NOT = BellTheCat.NOT;
    private static final int FULL = BellTheCat.FULL;
    private static final String SIX = "plain0 1 1;plain0 1 1;plain0 1 1;plain0 1 1;plain0 1 1;plain0 1 1;";

    public static void main(String[] args) throws ReflectiveOperationException {
        puttingOneByOne();
        inPlaceOfWhoWas();
        oneForAllSteps();
        puttingTheDead();
        puttingWhileTheBellIsOn();
        clearing();
        wholeOrNot();
        wholeWithoutSteps();
        drawsAtTheirDangers();
        dangerTenAndNone();
        boundsOfZ();
        nothingMoreIsDone();
        inTheTeamNoMore();
        theNextNight();
        tillNobodyIsLeft();
        theBellIsOnAlready();
        theLastNight();
        undoingOneByOne();
        undoingWhatChangedNothing();
        undoingRefusedCalls();
        undoingEightAtMost();
        undoingAndGoingOn();
        undoingNights();
        keepingByNumbers();
        keepingAllButThree();
        keepingAgain();
        keptSinceTheLastText();
        backTwice();
        backForgetsWhatCanBeUndone();
        Check.end();
    }

    private static int drawOf(int z, int k) {
        BigInteger x = BigInteger.valueOf(7919).multiply(BigInteger.valueOf(z))
            .add(BigInteger.valueOf(6151).multiply(BigInteger.valueOf(k))).add(BigInteger.ONE);
        return x.multiply(x).mod(BigInteger.valueOf(65521)).mod(BigInteger.TEN).intValue();
    }

    private static void nightIs(String told, BellTheCat cat, int number, int living, int bell, int filled) {
        int[] want = {number, living, bell, filled};
        for (int i = 0; i < 4; i++) {
            Check.due(told + ": count(" + (i + 4) + ")", want[i], cat.count(i + 4));
        }
    }

    // ---- promises 11 and 12

    /** "A MOUSE is to do a STEP .. : how many STEPS have one." */
    private static void puttingOneByOne() {
        BellTheCat cat = Check.told(SIX + "step0;step0;step0;step0;step0");
        int[] order = {4, 0, 3, 1, 2};
        for (int i = 0; i < 5; i++) {
            Check.due("put(" + order[i] + ", 5)", i + 1, cat.put(order[i], 5 - i));
            Check.due("who does it", 5 - i, cat.step(order[i], 1));
            Check.due("count(7)", i + 1, cat.count(7));
        }
        Check.due("the last mouse does the last step", 16, cat.mouse(5, 5));
        Check.due("mouse 0 does none", 0, cat.mouse(0, 5));
    }

    /** "(in place of who was)" */
    private static void inPlaceOfWhoWas() {
        BellTheCat cat = States.whole();
        Check.due("as many as were", 3, cat.put(0, 1));
        Check.due("who does it", 1, cat.step(0, 1));
        Check.due("who was does the others yet", 4, cat.mouse(0, 5));
        Check.due("who came does his too", 3, cat.mouse(1, 5));
        Check.due("himself in his own place", 3, cat.put(0, 1));
        Check.due("still he", 1, cat.step(0, 1));
    }

    private static void oneForAllSteps() {
        BellTheCat cat = Check.told(SIX + "step0;step0;step0;step0;step0");
        for (int s = 0; s < 5; s++) {
            Check.due("put(" + s + ", 3)", s + 1, cat.put(s, 3));
        }
        Check.due("all his", 31, cat.mouse(3, 5));
    }

    /** "NOT: he does not live" */
    private static void puttingTheDead() {
        BellTheCat cat = States.ticketless();
        Check.due("the dead", NOT, cat.put(0, 0));
        Check.due("nobody does it", NONE, cat.step(0, 1));
        Check.due("who lives", 1, cat.put(0, 1));
        Check.due("the dead in his place", NOT, cat.put(0, 0));
        Check.due("he does it yet", 1, cat.step(0, 1));
        cat.undo();
        cat.undo();
        Check.due("the night undone, he lives", 1, cat.put(0, 0));
    }

    private static void puttingWhileTheBellIsOn() {
        BellTheCat cat = States.belled();
        Check.due("put", 2, cat.put(0, 1));
        Check.due("who does it", 1, cat.step(0, 1));
        Check.due("clear", 2, cat.clear());
        nightIs("the bell stays on", cat, 1, 3, 1, 0);
    }

    /** "THE TEAM has nobody: how many STEPS had one." */
    private static void clearing() {
        BellTheCat cat = new BellTheCat();
        Check.due("no steps", 0, cat.clear());
        BellTheCat full = Check.told(SIX + "step0;step0;step0;step0;step0");
        Check.due("nobody", 0, full.clear());
        for (int filled = 1; filled <= 5; filled++) {
            for (int s = 0; s < filled; s++) {
                full.put(4 - s, s);
            }
            Check.due("clear() of " + filled, filled, full.clear());
            Check.due("count(7)", 0, full.count(7));
            Check.due("nobody then", 0, full.clear());
        }
        for (int s = 0; s < 5; s++) {
            Check.due("nobody does " + s, NONE, full.step(s, 1));
        }
    }

    // ---- promise 13

    /** "It is WHOLE, if each STEP has one, who lives.": each STEP by itself can lack. */
    private static void wholeOrNot() {
        for (int lacks = 0; lacks < 5; lacks++) {
            BellTheCat cat = Check.told(SIX + "step0;step0;step0;step0;step0");
            for (int s = 0; s < 5; s++) {
                if (s != lacks) {
                    cat.put(s, 0);
                }
            }
            Check.due(lacks + " lacks: night", NOT, cat.night(0));
            Check.due(lacks + " lacks: through", NOT, cat.through(0));
            Check.due(lacks + " lacks: loss", NOT, cat.loss(0));
            Check.due(lacks + " lacks: fails", NOT, cat.fails(0, 0));
            cat.put(lacks, 5);
            Check.due("none lacks: through", 1, cat.through(0));
            Check.due("none lacks: night", NONE, cat.night(0));
        }
    }

    /** Each of no STEPS has one. */
    private static void wholeWithoutSteps() {
        BellTheCat cat = new BellTheCat();
        Check.due("no mice, no steps", NONE, cat.night(9999));
        nightIs("by nobody", cat, 1, 0, 1, 0);
        BellTheCat mice = Check.told("coward 0 99 9");
        Check.due("mice, no steps", NONE, mice.night(0));
        nightIs("by nobody of one", mice, 1, 1, 1, 0);
        BellTheCat quiet = States.lacking();
        Check.tell(quiet, "quiet");
        Check.due("quiet", NONE, quiet.night(0));
    }

    /** "if that is less than the DANGER": a DRAW of as much as the DANGER lets him come through, one more does not. */
    private static void drawsAtTheirDangers() {
        int[] numbers = {0, 1, 2, 3, 7, 8, 9, 10, 27, 99, 100, 271, 542, 999, 1000, 1234, 4321, 4999, 5000, 7777,
            8888, 9997, 9998, 9999};
        for (int z : numbers) {
            for (int k = 0; k < 5; k++) {
                int draw = drawOf(z, k);
                String ahead = "plain0 1 1;" + "step0;".repeat(k) + "step";
                BellTheCat comes = Check.told(ahead + draw);
                BellTheCat caught = Check.told(ahead + (draw + 1));
                for (int s = 0; s <= k; s++) {
                    comes.put(s, 0);
                    caught.put(s, 0);
                }
                Check.due("night(" + z + ") at step " + k + ", danger " + draw, NONE, comes.night(z));
                Check.due("night(" + z + ") at step " + k + ", danger " + (draw + 1), 0, caught.night(z));
            }
        }
    }

    /** DANGER 0 catches nobody and DANGER 10 everybody, by each DRAW. */
    private static void dangerTenAndNone() {
        BellTheCat cat = Check.told("coward9 1 1;plain9 1 1;step6;step9");
        cat.put(1, 1);
        for (int z = 0; z < 60; z++) {
            cat.put(0, 0);
            Check.due("danger 10, night(" + z + ")", 0, cat.night(z));
            cat.undo();
            cat.put(0, 1);
            Check.due("danger 0, night(" + z + ")", NONE, cat.night(z));
            cat.undo();
        }
    }

    /** "a number z (0 .. 9999)" */
    private static void boundsOfZ() {
        int[][] numbers = {{0, 1}, {9999, 1}, {-1, 0}, {10000, 0}, {Integer.MIN_VALUE, 0}, {Integer.MAX_VALUE, 0}};
        for (int[] z : numbers) {
            BellTheCat cat = Check.told("plain9 1 1;step9");
            cat.put(0, 0);
            Check.due("night(" + z[0] + ")", z[1] == 1 ? NONE : OUTSIDE, cat.night(z[0]));
            nightIs("by " + z[0], cat, z[1], 1, z[1], 1);
        }
    }

    /** "he is CAUGHT .., and nothing more is done in it": of two who would be caught only the first is. */
    private static void nothingMoreIsDone() {
        BellTheCat cat = Check.told("coward0 1 1;coward0 1 1;coward0 1 1;step6;step6;step6");
        cat.put(0, 2);
        cat.put(1, 0);
        cat.put(2, 1);
        Check.due("the first step's", 2, cat.night(0));
        nightIs("one is caught", cat, 1, 3, 0, 2);
        Check.due("mouse 0 does his", 2, cat.mouse(0, 5));
        Check.due("mouse 1 does his", 4, cat.mouse(1, 5));
    }

    /** "(he lives no more, he is in THE TEAM no more)": at none of his STEPS. */
    private static void inTheTeamNoMore() {
        BellTheCat cat = Check.told("coward9 1 1;plain9 1 1;step5;step6;step5;step9;step0");
        cat.put(0, 0);
        cat.put(1, 0);
        cat.put(2, 0);
        cat.put(3, 1);
        cat.put(4, 0);
        Check.due("caught at step 1", 0, cat.night(9999));
        nightIs("he is gone", cat, 1, 2, 0, 1);
        Check.due("he lives no more", 0, cat.mouse(0, 4));
        Check.due("he does no step", 0, cat.mouse(0, 5));
        Check.due("the other does his", 8, cat.mouse(1, 5));
        Check.due("not whole", NOT, cat.night(9999));
        for (int s : new int[] {0, 1, 2, 4}) {
            Check.due("nobody does " + s, NONE, cat.step(s, 1));
        }
    }

    /** "Then it is the next NIGHT.": by either end of it. */
    private static void theNextNight() {
        BellTheCat cat = Check.told("coward9 1 1;plain9 1 1;step6");
        cat.put(0, 0);
        Check.due("caught", 0, cat.night(5));
        Check.due("night 1", 1, cat.count(4));
        cat.put(0, 1);
        Check.due("through", NONE, cat.night(5));
        Check.due("night 2", 2, cat.count(4));
    }

    /** All six are caught one by one; the seventh night finds nobody. */
    private static void tillNobodyIsLeft() {
        BellTheCat cat = Check.told(SIX + "step10");
        for (int m = 0; m < 6; m++) {
            Check.due("put", 1, cat.put(0, m));
            Check.due("caught", m, cat.night(m));
            nightIs("behind night " + m, cat, m + 1, 63 & -2 << m, 0, 0);
        }
        Check.due("nobody to put", NOT, cat.put(0, 5));
        Check.due("nobody to go", NOT, cat.night(0));
        Check.due("the sixth undone", 7, cat.undo());
        nightIs("the sixth undone", cat, 5, 32, 0, 1);
    }

    /** "NOT: .. the BELL is on already" */
    private static void theBellIsOnAlready() {
        BellTheCat cat = States.belled();
        nightIs("on", cat, 1, 3, 1, 2);
        Check.due("again", NOT, cat.night(0));
        cat.put(0, 1);
        Check.due("by others", NOT, cat.night(0));
        cat.clear();
        Check.due("by nobody", NOT, cat.night(0));
        nightIs("on yet", cat, 1, 3, 1, 0);
        Check.due("back(0)", 0, cat.back(0));
        Check.due("off again", NONE, cat.night(0));
    }

    /**
     * "FULL: it is NIGHT 999". No run of calls comes so far, as each night
     * but the last loses one of six mice: so the night is set from within.
     */
    private static void theLastNight() throws ReflectiveOperationException {
        BellTheCat cat = Check.told("coward9 1 1;plain9 1 1;step6");
        cat.put(0, 0);
        setNight(cat, 998);
        Check.due("night 998 can be", 0, cat.night(0));
        Check.due("night(0), nobody is put", NOT, cat.night(0));
        cat.put(0, 1);
        nightIs("it is night 999", cat, 999, 2, 0, 1);
        Check.due("night(10000), night 999", OUTSIDE, cat.night(10000));
        Check.due("night(0), night 999", FULL, cat.night(0));
        Check.due("night(9999), night 999", FULL, cat.night(9999));
        nightIs("it is night 999 yet", cat, 999, 2, 0, 1);
        Check.due("what can be undone", 3, cat.count(9));
        BellTheCat belled = States.belled();
        setNight(belled, 999);
        Check.due("night(0), night 999, the bell is on", NOT, belled.night(0));
    }

    private static void setNight(BellTheCat cat, int number) throws ReflectiveOperationException {
        Field now = BellTheCat.class.getDeclaredField("now");
        now.setAccessible(true);
        Object team = now.get(cat);
        Field nights = team.getClass().getDeclaredField("nights");
        nights.setAccessible(true);
        nights.setInt(team, number);
        Check.due("the night is set", number, cat.count(4));
    }

    // ---- promise 14

    /** "The latest put(), clear(), night() is undone .. : how many can be undone yet." */
    private static void undoingOneByOne() {
        BellTheCat cat = Check.told("coward9 1 1;plain9 1 1;step6");
        cat.put(0, 1);
        cat.clear();
        cat.put(0, 0);
        cat.night(0);
        Check.due("count(9)", 4, cat.count(9));
        Check.due("undo() of night()", 3, cat.undo());
        nightIs("night() undone", cat, 0, 3, 0, 1);
        Check.due("who went", 0, cat.step(0, 1));
        Check.due("undo() of put()", 2, cat.undo());
        Check.due("nobody", NONE, cat.step(0, 1));
        Check.due("undo() of clear()", 1, cat.undo());
        Check.due("who was", 1, cat.step(0, 1));
        Check.due("undo() of the first", 0, cat.undo());
        Check.due("nobody at first", NONE, cat.step(0, 1));
        Check.due("count(9) at last", 0, cat.count(9));
        Check.due("undo() of none", NOT, cat.undo());
    }

    /** "(also one by which nothing became other ..)" */
    private static void undoingWhatChangedNothing() {
        BellTheCat cat = new BellTheCat();
        cat.clear();
        cat.clear();
        Check.due("two clears", 2, cat.count(9));
        Check.due("one is left", 1, cat.undo());
        Check.due("none is left", 0, cat.undo());
        Check.due("no more", NOT, cat.undo());
        BellTheCat same = States.whole();
        same.put(0, 0);
        Check.due("the same again", 4, same.count(9));
        Check.due("undo() of it", 3, same.undo());
        Check.due("he does it yet", 0, same.step(0, 1));
    }

    /** What was refused has not been, and cannot be undone; nor can what is no put(), clear(), night(). */
    private static void undoingRefusedCalls() {
        BellTheCat cat = States.ticketless();
        Check.due("put and night", 2, cat.count(9));
        cat.put(0, 0);
        cat.put(1, 1);
        cat.night(0);
        cat.night(-1);
        cat.keep(2);
        cat.back(1);
        cat.house();
        Check.due("refused ones", 2, cat.count(9));
        cat.keep(0);
        cat.seen(0, 0);
        cat.forget();
        cat.write('q');
        cat.erase();
        cat.best(0);
        cat.teams(0);
        Check.due("others", 2, cat.count(9));
    }

    /** "(.. the last 8 can be)" */
    private static void undoingEightAtMost() {
        for (int changes = 7; changes <= 20; changes++) {
            BellTheCat cat = Check.told(SIX + "step0");
            for (int i = 0; i < changes; i++) {
                cat.put(0, i % 6);
            }
            int can = Math.min(8, changes);
            Check.due(changes + " changes", can, cat.count(9));
            for (int left = can - 1; left >= 0; left--) {
                Check.due("left", left, cat.undo());
                int behind = changes - can + left;
                Check.due("who did it then", behind == 0 ? NONE : (behind - 1) % 6, cat.step(0, 1));
            }
            Check.due("one more than can be", NOT, cat.undo());
            Check.due("who does it stays", changes <= 8 ? NONE : (changes - 9) % 6, cat.step(0, 1));
        }
    }

    private static void undoingAndGoingOn() {
        BellTheCat cat = Check.told(SIX + "step0");
        for (int i = 0; i < 12; i++) {
            cat.put(0, i % 6);
        }
        Check.due("undo", 7, cat.undo());
        Check.due("undo again", 6, cat.undo());
        Check.due("who does it", 3, cat.step(0, 1));
        cat.put(0, 0);
        Check.due("and on", 7, cat.count(9));
        cat.put(0, 1);
        cat.put(0, 2);
        Check.due("and full again", 8, cat.count(9));
        int[] were = {1, 0, 3, 2, 1, 0, 5, 4};
        for (int i = 0; i < 8; i++) {
            Check.due("left", 7 - i, cat.undo());
            Check.due("who did it", were[i], cat.step(0, 1));
        }
        Check.due("no more", NOT, cat.undo());
        cat.put(0, 5);
        Check.due("one more to undo", 1, cat.count(9));
        Check.due("undone", 0, cat.undo());
        Check.due("as it was", 4, cat.step(0, 1));
    }

    private static void undoingNights() {
        BellTheCat cat = Check.told(SIX + "step10;step0");
        for (int m = 0; m < 3; m++) {
            cat.put(0, m);
            cat.put(1, m);
            Check.due("caught", m, cat.night(0));
        }
        Check.due("eight of nine", 8, cat.count(9));
        cat.undo();
        nightIs("the third night undone", cat, 2, 60, 0, 2);
        cat.undo();
        cat.undo();
        nightIs("his steps undone", cat, 2, 60, 0, 0);
        cat.undo();
        nightIs("the second night undone", cat, 1, 62, 0, 2);
        BellTheCat belled = States.belled();
        Check.due("the bell undone", 2, belled.undo());
        nightIs("off again", belled, 0, 3, 0, 2);
        Check.due("on again", NONE, belled.night(0));
    }

    // ---- promises 15 and 16

    /** "(k 0, 1): the NIGHT. UNKNOWN: no such k." */
    private static void keepingByNumbers() {
        BellTheCat cat = Check.told("coward9 1 1;plain9 1 1;step6");
        Check.due("keep(0)", 0, cat.keep(0));
        cat.put(0, 0);
        cat.night(0);
        Check.due("keep(1)", 1, cat.keep(1));
        cat.put(0, 1);
        cat.night(0);
        Check.due("the night is 2", 2, cat.count(4));
        Check.due("keep(2)", BellTheCat.UNKNOWN, cat.keep(2));
        Check.due("keep(-1)", BellTheCat.UNKNOWN, cat.keep(-1));
        Check.due("back(2)", BellTheCat.UNKNOWN, cat.back(2));
        Check.due("back(-1)", BellTheCat.UNKNOWN, cat.back(-1));
        Check.due("back(1)", 1, cat.back(1));
        nightIs("as kept by 1", cat, 1, 2, 0, 0);
        Check.due("back(0)", 0, cat.back(0));
        nightIs("as kept by 0", cat, 0, 3, 0, 0);
    }

    /** "All as it is (but THE TEXT, SEEN, what can be undone) is kept" */
    private static void keepingAllButThree() {
        BellTheCat cat = States.belled();
        cat.keep(1);
        Check.due("keep() leaves what can be undone", 3, cat.count(9));
        cat.undo();
        cat.clear();
        cat.seen(1, 0);
        Check.write(cat, "quiet");
        Check.due("back(1)", 1, cat.back(1));
        nightIs("the bell is on", cat, 1, 3, 1, 2);
        Check.due("the first does his", 0, cat.step(0, 1));
        Check.due("the second does his", 1, cat.step(1, 1));
        Check.due("the text is not as kept", 5, cat.count(10));
        Check.due("nor is what was seen", 1, cat.count(8));
        cat.seen(1, 0);
        cat.write(';');
        cat.keep(0);
        cat.forget();
        cat.erase();
        cat.back(0);
        Check.due("the text is not kept", 0, cat.count(10));
        Check.due("what was seen is not kept", 0, cat.count(8));
    }

    /** What is kept again is the later; the other stays; what is kept is no more changed by calls. */
    private static void keepingAgain() {
        BellTheCat cat = States.whole();
        cat.keep(0);
        cat.keep(1);
        cat.clear();
        cat.keep(0);
        cat.put(0, 1);
        Check.due("back(1)", 0, cat.back(1));
        Check.due("the former", 3, cat.count(7));
        Check.due("back(0)", 0, cat.back(0));
        Check.due("the later", 0, cat.count(7));
    }

    /** "NOT: nothing was kept since the last text" */
    private static void keptSinceTheLastText() {
        BellTheCat cat = States.full();
        Check.write(cat, "x");
        Check.due("a text with a fault", NOT, cat.house());
        Check.due("ends nothing: 1", 1, cat.back(1));
        Check.due("ends nothing: 0", 0, cat.back(0));
        cat.erase();
        Check.tell(cat, "gain 1");
        Check.due("a text ends 0", NOT, cat.back(0));
        Check.due("a text ends 1", NOT, cat.back(1));
        cat.keep(1);
        Check.due("0 is not kept yet", NOT, cat.back(0));
        Check.due("1 is kept anew", 0, cat.back(1));
        nightIs("as of the text", cat, 0, 63, 0, 0);
        BellTheCat none = new BellTheCat();
        Check.due("nothing was kept", NOT, none.back(0));
        none.keep(0);
        Check.due("a new one can be kept", 0, none.back(0));
    }

    /** "It is as it was kept": however often, and it stays kept. */
    private static void backTwice() {
        BellTheCat cat = States.whole();
        cat.keep(0);
        for (int i = 0; i < 3; i++) {
            cat.put(0, 1);
            cat.put(1, 0);
            cat.clear();
            Check.due("back(0)", 0, cat.back(0));
            Check.due("mouse 0", 5, cat.mouse(0, 5));
            Check.due("mouse 1", 2, cat.mouse(1, 5));
        }
        cat.put(2, 1);
        cat.undo();
        Check.due("undo leaves what is kept", 0, cat.back(0));
    }

    /** "nothing can be undone" */
    private static void backForgetsWhatCanBeUndone() {
        BellTheCat cat = States.full();
        Check.due("eight", 8, cat.count(9));
        Check.due("back(1)", 1, cat.back(1));
        Check.due("none", 0, cat.count(9));
        Check.due("undo()", NOT, cat.undo());
        cat.clear();
        Check.due("one", 1, cat.count(9));
        Check.due("undo() of it", 0, cat.undo());
        nightIs("as kept", cat, 1, 62, 0, 4);
        Check.due("a refused back()", BellTheCat.UNKNOWN, cat.back(2));
        cat.put(0, 1);
        cat.back(3);
        Check.due("leaves what can be undone", 1, cat.count(9));
    }
}
