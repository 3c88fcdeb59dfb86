/**
 * Promises 11 to 16: teams, nights. The draws that the runs lean on, for
 * steps 0, 1 ..: z 0: 1 7 9 9 6; z 1: 3 0 3; z 4: 5 5 2; z 5: 8 9 7;
 * z 6: 8 1 0; z 9999: 3 2 8.
 */
public final class NightsTest {
    private static final String TWO = "plain 0 10 1;plain 0 20 2;step 5;step 5";

    public static void main(String[] args) {
        putting();
        clearing();
        nightsRefused();
        nightsByTheirNumbers();
        nightsWithoutSteps();
        caughtInAllHisSteps();
        undoing();
        undoingEight();
        keeping();
        Check.end();
    }

    private static void putting() {
        BellTheCat cat = Check.told(TWO);
        Check.due("put(2, 0)", BellTheCat.UNKNOWN, cat.put(2, 0));
        Check.due("put(-1, 0)", BellTheCat.UNKNOWN, cat.put(-1, 0));
        Check.due("put(0, 2)", BellTheCat.UNKNOWN, cat.put(0, 2));
        Check.due("put(0, -1)", BellTheCat.UNKNOWN, cat.put(0, -1));
        Check.due("put(1, 0)", 1, cat.put(1, 0));
        Check.due("put(0, 0)", 2, cat.put(0, 0));
        Check.due("put in his place", 2, cat.put(1, 1));
        Check.due("who does it now", 1, cat.step(1, 1));
        Check.due("what he does yet", 1, cat.mouse(0, 5));
        Check.due("count(7)", 2, cat.count(7));
        Check.due("count(9)", 3, cat.count(9));
        cat.night(1);
        Check.due("put one who does not live", BellTheCat.NOT, cat.put(0, 0));
        Check.due("an unknown step is first", BellTheCat.UNKNOWN, cat.put(2, 0));
        Check.due("refused ones cannot be undone", 4, cat.count(9));
        Check.due("put who lives", 2, cat.put(0, 1));
        cat.night(4);
        Check.due("put while the bell is on", 2, cat.put(0, 1));
    }

    private static void clearing() {
        BellTheCat cat = Check.told(TWO);
        Check.due("clear() of nobody", 0, cat.clear());
        cat.put(0, 0);
        cat.put(1, 0);
        Check.due("clear()", 2, cat.clear());
        Check.due("nobody does it", BellTheCat.NONE, cat.step(0, 1));
        Check.due("he does nothing", 0, cat.mouse(0, 5));
        Check.due("count(7)", 0, cat.count(7));
        Check.due("undo of clear()", 3, cat.undo());
        Check.due("he does both", 3, cat.mouse(0, 5));
    }

    private static void nightsRefused() {
        BellTheCat cat = Check.told(TWO);
        Check.due("night(-1)", BellTheCat.OUTSIDE, cat.night(-1));
        Check.due("night(10000)", BellTheCat.OUTSIDE, cat.night(10000));
        Check.due("nobody", BellTheCat.NOT, cat.night(4));
        cat.put(1, 0);
        Check.due("not whole", BellTheCat.NOT, cat.night(4));
        Check.due("it is no night", 0, cat.count(4));
        Check.due("not to be undone", 1, cat.count(9));
        cat.put(0, 1);
        Check.due("night(4)", BellTheCat.NONE, cat.night(4));
        Check.due("the bell is on", 1, cat.count(6));
        Check.due("night(4) again", BellTheCat.NOT, cat.night(4));
        Check.due("night(10000) then", BellTheCat.OUTSIDE, cat.night(10000));
        Check.due("one night", 1, cat.count(4));
    }

    private static void nightsByTheirNumbers() {
        BellTheCat cat = Check.told(TWO + ";step 0");
        int[][] want = {{0, 0}, {1, 0}, {4, -1}, {5, -1}, {6, 1}, {9999, 0}};
        for (int[] night : want) {
            cat.clear();
            cat.put(0, 0);
            cat.put(1, 1);
            cat.put(2, 0);
            Check.due("night(" + night[0] + ")", night[1], cat.night(night[0]));
            Check.due("count(4)", 1, cat.count(4));
            Check.due("count(5)", night[1] == 0 ? 2 : night[1] == 1 ? 1 : 3, cat.count(5));
            Check.due("count(6)", night[1] == -1 ? 1 : 0, cat.count(6));
            cat.undo();
            Check.due("count(4) undone", 0, cat.count(4));
        }
        /* The draw of z 9999 is 3: it must be less than the danger. */
        BellTheCat at = Check.told("plain 0 1 1;step 3");
        at.put(0, 0);
        Check.due("danger 3 by 3", BellTheCat.NONE, at.night(9999));
        BellTheCat above = Check.told("plain 0 1 1;step 4");
        above.put(0, 0);
        Check.due("danger 4 by 3", 0, above.night(9999));
        Check.due("nobody lives", 0, above.count(5));
        Check.due("not whole any more", BellTheCat.NOT, above.night(9999));
    }

    private static void nightsWithoutSteps() {
        BellTheCat cat = Check.told("coward 0 0 0");
        Check.due("without steps", BellTheCat.NONE, cat.night(0));
        Check.due("the bell is on", 1, cat.count(6));
        Check.due("the coward lives", 1, cat.mouse(0, 4));
    }

    private static void caughtInAllHisSteps() {
        BellTheCat cat = Check.told("plain 0 1 1;plain 9 1 1;step 9;step 0;step 0;step 0;step 15");
        cat.put(0, 1);
        cat.put(1, 0);
        cat.put(2, 1);
        cat.put(3, 0);
        cat.put(4, 0);
        Check.due("caught at the last step", 0, cat.night(3));
        Check.due("he lives no more", 0, cat.mouse(0, 4));
        Check.due("he does no step", 0, cat.mouse(0, 5));
        Check.due("the other does his", 5, cat.mouse(1, 5));
        Check.due("two steps have one", 2, cat.count(7));
        Check.due("the bell is not on", 0, cat.count(6));
        Check.due("it is the next night", 1, cat.count(4));
        cat.undo();
        Check.due("he lives again", 1, cat.mouse(0, 4));
        Check.due("he does his again", 26, cat.mouse(0, 5));
    }

    private static void undoing() {
        BellTheCat cat = Check.told(TWO);
        Check.due("undo() of none", BellTheCat.NOT, cat.undo());
        cat.put(0, 0);
        cat.put(0, 1);
        cat.put(0, 1);
        Check.due("undo() of no change", 2, cat.undo());
        Check.due("still he", 1, cat.step(0, 1));
        Check.due("undo() of his place", 1, cat.undo());
        Check.due("who was", 0, cat.step(0, 1));
        Check.due("undo() of the first", 0, cat.undo());
        Check.due("nobody", BellTheCat.NONE, cat.step(0, 1));
        Check.due("undo() of none then", BellTheCat.NOT, cat.undo());
        cat.seen(0, 0);
        cat.put(0, 0);
        cat.undo();
        Check.due("what is seen stays", 1, cat.count(8));
    }

    private static void undoingEight() {
        BellTheCat cat = Check.told("plain 9 1 1;plain 9 1 1;step 0;step 0");
        for (int i = 0; i < 11; i++) {
            cat.put(0, i % 2);
            Check.due("count(9)", Math.min(8, i + 1), cat.count(9));
        }
        for (int left = 7; left >= 0; left--) {
            Check.due("undo() to " + left, left, cat.undo());
            Check.due("who did it then", (left + 2) % 2, cat.step(0, 1));
        }
        Check.due("the ninth", BellTheCat.NOT, cat.undo());
        Check.due("what was then stays", 0, cat.step(0, 1));
    }

    private static void keeping() {
        BellTheCat cat = Check.told(TWO);
        Check.due("keep(2)", BellTheCat.UNKNOWN, cat.keep(2));
        Check.due("keep(-1)", BellTheCat.UNKNOWN, cat.keep(-1));
        Check.due("back(2)", BellTheCat.UNKNOWN, cat.back(2));
        Check.due("back(-1)", BellTheCat.UNKNOWN, cat.back(-1));
        Check.due("back(0)", BellTheCat.NOT, cat.back(0));
        cat.put(0, 0);
        cat.put(1, 1);
        Check.due("keep(0)", 0, cat.keep(0));
        Check.due("it can be undone yet", 2, cat.count(9));
        cat.night(1);
        Check.due("keep(1)", 1, cat.keep(1));
        cat.put(0, 1);
        cat.night(4);
        cat.seen(1, 1);
        cat.write('q');
        Check.due("back(0)", 0, cat.back(0));
        Check.due("both live", 3, cat.count(5));
        Check.due("the bell is off", 0, cat.count(6));
        Check.due("both do theirs", 2, cat.count(7));
        Check.due("nothing can be undone", BellTheCat.NOT, cat.undo());
        Check.due("what is seen stays", 1, cat.count(8));
        Check.due("the text stays", 1, cat.count(10));
        Check.due("back(1)", 1, cat.back(1));
        Check.due("one lives", 2, cat.count(5));
        Check.due("nobody at the first step", BellTheCat.NONE, cat.step(0, 1));
        cat.put(0, 1);
        Check.due("kept anew", 1, cat.keep(0));
        cat.clear();
        Check.due("back to it", 1, cat.back(0));
        Check.due("as kept anew", 2, cat.count(7));
        cat.house();
        Check.due("a text with a fault ends nothing", 1, cat.back(1));
    }
}
