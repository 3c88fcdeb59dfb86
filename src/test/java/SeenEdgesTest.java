/** The edges that the last part of section 3 and promises 31 to 35 name, each sentence by a test of its own. */
public final class SeenEdgesTest {
    private static final int NONE = BellTheCat.NONE;
    private static final int UNKNOWN = BellTheCat.UNKNOWN;
    private static final int OUTSIDE = BellTheCat.OUTSIDE;
    private static final int FULL = BellTheCat.FULL;
    private static final String SIX = "plain0 1 1;plain0 1 1;plain0 1 1;plain0 1 1;plain0 1 1;plain0 1 1;";

    public static void main(String[] args) {
        sixSeen();
        whatCannotBeIsSeenToo();
        forgetting();
        seenStaysThroughNights();
        nothingIsSeen();
        withoutSteps();
        withoutMice();
        dangerAboveNothing();
        dangerBelowTenAhead();
        dangerBehindDoesNotCount();
        theSameRowOnEachNight();
        asIfAllLived();
        whatThisTeamIsDoesNotCount();
        theFirstRow();
        inAllOfThem();
        theMostRows();
        countingNothing();
        countingTheMost();
        countingByWhat();
        Check.end();
    }

    private static BellTheCat seen(String text, int... stepsAndMice) {
        BellTheCat cat = Check.told(text);
        for (int i = 0; i + 1 < stepsAndMice.length; i += 2) {
            Check.due("seen", i / 2 + 1, cat.seen(stepsAndMice[i], stepsAndMice[i + 1]));
        }
        return cat;
    }

    private static void teams(String told, BellTheCat cat, int rows, int inAll, int... first) {
        Check.due("teams(0) of " + told, rows, cat.teams(0));
        Check.due("teams(1) of " + told, inAll, cat.teams(1));
        for (int s = 0; s < first.length; s++) {
            Check.due("teamOf(" + s + ") of " + told, first[s], cat.teamOf(s));
        }
        Check.due("teamOf(" + first.length + ") of " + told, UNKNOWN, cat.teamOf(first.length));
        Check.due("teamOf(-1) of " + told, UNKNOWN, cat.teamOf(-1));
        Check.due("teams(2) of " + told, OUTSIDE, cat.teams(2));
        Check.due("teams(-1) of " + told, OUTSIDE, cat.teams(-1));
    }

    // ---- promises 31 and 32

    /** "SEEN, 6 at most" */
    private static void sixSeen() {
        BellTheCat cat = Check.told(SIX + "step9;step9;step9;step9;step9");
        for (int i = 0; i < 6; i++) {
            Check.due("seen the " + (i + 1) + "th", i + 1, cat.seen(i % 5, i));
        }
        Check.due("the 7th", FULL, cat.seen(0, 0));
        Check.due("the 7th, the last of all", FULL, cat.seen(4, 5));
        Check.due("no such step", UNKNOWN, cat.seen(5, 5));
        Check.due("no such mouse", UNKNOWN, cat.seen(4, 6));
        Check.due("count(8)", 6, cat.count(8));
        Check.due("forget()", 6, cat.forget());
        Check.due("room again", 1, cat.seen(4, 5));
    }

    /** "on a night a MOUSE was CAUGHT at a STEP": it is taken, though by no row it could be. */
    private static void whatCannotBeIsSeenToo() {
        BellTheCat cat = Check.told("plain9 1 1;step0");
        Check.due("by danger 0", 1, cat.seen(0, 0));
        Check.due("by it no row", 0, cat.teams(0));
        cat.forget();
        Check.due("and without it one", 1, cat.teams(0));
    }

    /** "SEEN is nothing: how many there were." */
    private static void forgetting() {
        BellTheCat cat = Check.told("plain0 1 1;step9");
        Check.due("of none", 0, cat.forget());
        for (int many = 1; many <= 6; many++) {
            for (int i = 0; i < many; i++) {
                cat.seen(0, 0);
            }
            Check.due("of " + many, many, cat.forget());
            Check.due("count(8)", 0, cat.count(8));
            Check.due("of none again", 0, cat.forget());
        }
        BellTheCat full = States.full();
        BellTheCat twin = States.full();
        full.forget();
        twin.forget();
        for (int i = 0; i < 6; i++) {
            full.seen(4, 3);
        }
        Check.same("forgotten and seen again", View.toTheEnd(States.full()), View.toTheEnd(full));
        Check.due("nothing else is forgotten", 8, twin.count(9));
    }

    private static void seenStaysThroughNights() {
        BellTheCat cat = States.whole();
        cat.seen(0, 0);
        cat.seen(2, 1);
        cat.night(0);
        cat.undo();
        cat.keep(0);
        cat.clear();
        cat.back(0);
        Check.due("count(8)", 2, cat.count(8));
        Check.due("what was seen", 2, cat.teams(0));
        cat.write('x');
        cat.house();
        Check.due("a text with a fault leaves it", 2, cat.count(8));
        cat.erase();
        Check.tell(cat, "gain 1");
        Check.due("a text ends it", 0, cat.count(8));
    }

    // ---- promises 33 and 34

    /** "rows that tell any MOUSE for each STEP": also one for several. */
    private static void nothingIsSeen() {
        teams("1 and 1", Check.told("coward0 1 1;step15"), 1, 1, 0);
        teams("1 and 5", Check.told("coward0 1 1;step15;step0;step15;step0;step15"), 1, 1, 0, 0, 0, 0, 0);
        teams("2 and 1", Check.told("plain0 1 1;plain0 1 1;step15"), 2, 0, 0);
        teams("2 and 3", Check.told("plain0 1 1;plain0 1 1;step15;step15;step15"), 8, 0, 0, 0, 0);
        teams("6 and 1", Check.told(SIX + "step15"), 6, 0, 0);
    }

    /** "(Without STEPS: one row, that tells nobody.)" */
    private static void withoutSteps() {
        teams("a new one", new BellTheCat(), 1, 0);
        teams("one mouse", Check.told("plain1 1 1"), 1, 0);
        teams("quiet", Check.told("plain1 1 1;step1;quiet"), 1, 0);
    }

    /** "NONE: there is none"; "(1; none: 0)" */
    private static void withoutMice() {
        teams("no mice", Check.told("step0"), 0, 0, NONE);
        teams("no mice, five steps", Check.told("step0;step0;step0;step0;step0"), 0, 0, NONE, NONE, NONE, NONE, NONE);
    }

    /** "(DANGER of that STEP to him above 0 ..)" */
    private static void dangerAboveNothing() {
        teams("danger 0", seen("plain5 1 1;plain0 1 1;step5", 0, 0), 0, 0, NONE);
        teams("danger 1", seen("plain4 1 1;plain0 1 1;step5", 0, 0), 1, 1, 0);
        teams("danger 10", seen("plain4 1 1;coward9 1 1;step6", 0, 1), 1, 2, 1);
        teams("danger 0 to a brave one", seen("brave4 1 1;step5", 0, 0), 0, 0, NONE);
        teams("danger 1 to a brave one", seen("brave4 1 1;step6", 0, 0), 1, 1, 0);
        teams("danger 0 at the last step", seen("plain5 1 1;step9;step5", 1, 0), 0, 0, NONE, NONE);
        teams("danger 1 at the last step", seen("plain5 1 1;step9;step6", 1, 0), 1, 1, 0, 0);
    }

    /** "(.. DANGER of those ahead to theirs below 10 ..)" */
    private static void dangerBelowTenAhead() {
        teams("danger 9 ahead", seen("plain0 1 1;step9;step1", 1, 0), 1, 1, 0, 0);
        teams("danger 10 ahead", seen("plain0 1 1;step10;step1", 1, 0), 0, 0, NONE, NONE);
        teams("danger 10 far ahead", seen("plain0 1 1;step10;step0;step0;step0;step1", 4, 0), 0, 0,
            NONE, NONE, NONE, NONE, NONE);
        teams("danger 9 far ahead", seen("plain0 1 1;step9;step9;step9;step9;step1", 4, 0), 1, 1, 0, 0, 0, 0, 0);
        teams("danger 10 to one of two", seen("coward9 1 1;plain0 1 1;step6;step1", 1, 1), 1, 2, 1, 1);
        teams("danger 10 to both", seen("coward9 1 1;plain0 1 1;step10;step1", 1, 1), 0, 0, NONE, NONE);
    }

    /** What is behind the STEP at which one was CAUGHT was not done on that night. */
    private static void dangerBehindDoesNotCount() {
        teams("danger 10 behind", seen("plain0 1 1;step1;step10", 0, 0), 1, 1, 0, 0);
        teams("danger 10 at it", seen("plain0 1 1;step10;step1", 0, 0), 1, 1, 0, 0);
        teams("any behind", seen("plain0 1 1;coward0 1 1;step1;step10", 0, 0), 2, 1, 0, 0);
    }

    /** "all that is SEEN could be ..; on each of these nights the same row" */
    private static void theSameRowOnEachNight() {
        String three = "plain0 1 1;plain0 1 1;plain0 1 1;step5;step5;step5";
        teams("one", seen(three, 0, 1), 9, 2, 1, 0, 0);
        teams("one, twice", seen(three, 0, 1, 0, 1), 9, 2, 1, 0, 0);
        teams("one, six times", seen(three, 0, 1, 0, 1, 0, 1, 0, 1, 0, 1, 0, 1), 9, 2, 1, 0, 0);
        teams("two at one step", seen(three, 0, 1, 0, 2), 0, 0, NONE, NONE, NONE);
        teams("one at two steps", seen(three, 0, 1, 2, 1), 3, 2, 1, 0, 1);
        teams("each step", seen(three, 2, 0, 1, 1, 0, 2), 1, 7, 2, 1, 0);
        teams("the last of six is against it", seen(three, 0, 1, 0, 1, 0, 1, 0, 1, 0, 1, 0, 2), 0, 0,
            NONE, NONE, NONE);
        /* Danger 10 catches at its step, and lets nobody come to the next. */
        String sure = "coward9 1 1;plain0 1 1;step6;step5";
        teams("caught there for sure", seen(sure, 0, 0), 2, 1, 0, 0);
        teams("and behind it", seen(sure, 0, 0, 1, 1), 0, 0, NONE, NONE);
    }

    /** "as if all lived" */
    private static void asIfAllLived() {
        BellTheCat cat = Check.told("plain0 1 1;plain0 1 1;step10;step5");
        cat.put(0, 0);
        cat.put(1, 1);
        Check.due("he is caught", 0, cat.night(0));
        teams("with the dead", cat, 4, 0, 0, 0);
        Check.due("seen(0, 0)", 1, cat.seen(0, 0));
        teams("seen with the dead", cat, 2, 1, 0, 0);
        BellTheCat extinct = States.extinct();
        teams("with nobody left", extinct, 1, 1, 0);
        Check.due("seen of him", 1, extinct.seen(0, 0));
        teams("seen with nobody left", extinct, 1, 1, 0);
    }

    private static void whatThisTeamIsDoesNotCount() {
        BellTheCat cat = Check.told("plain0 1 1;plain0 1 1;step5;step5");
        cat.seen(0, 1);
        teams("nobody put", cat, 2, 2, 1, 0);
        cat.put(0, 0);
        cat.put(1, 1);
        teams("others put", cat, 2, 2, 1, 0);
        Check.due("best does not show in it", 0, cat.bestOf(0));
        teams("behind best", cat, 2, 2, 1, 0);
    }

    /** "the first": by STEPS, lesser MICE first. */
    private static void theFirstRow() {
        teams("the last ones only", seen("coward9 1 1;coward9 1 1;plain0 1 1;step6;step6;step1", 2, 2), 1, 4, 2, 2, 2);
        teams("each the first that can", seen("coward9 1 1;plain5 1 1;plain0 1 1;step6;step5;step1", 2, 2),
            6, 4, 1, 0, 2);
    }

    /** "MICE who are in all of them, by bits" */
    private static void inAllOfThem() {
        String two = "plain0 1 1;plain0 1 1;step5;step5";
        teams("nobody", Check.told(two), 4, 0, 0, 0);
        teams("the one seen", seen(two, 1, 0), 2, 1, 0, 0);
        teams("both", seen(two, 0, 1, 1, 0), 1, 3, 1, 0);
        teams("by what the others cannot", seen("coward0 1 1;plain0 1 1;coward0 1 1;step6;step1", 1, 0), 1, 3, 1, 0);
        teams("all six and five steps", seen(SIX + "step5;step5;step5;step5;step5", 0, 5, 1, 4, 2, 3, 3, 2, 4, 1),
            1, 62, 5, 4, 3, 2, 1);
    }

    private static void theMostRows() {
        String five = "step5;step5;step5;step5;step5";
        teams("all", Check.told(SIX + five), 7776, 0, 0, 0, 0, 0, 0);
        teams("one step seen", seen(SIX + five, 4, 5), 1296, 32, 0, 0, 0, 0, 5);
    }

    // ---- promise 35

    private static void counts(String told, BellTheCat cat, int... want) {
        for (int what = 0; what < want.length; what++) {
            Check.due("count(" + what + ") of " + told, want[what], cat.count(what));
        }
    }

    private static void countingNothing() {
        counts("a new one", new BellTheCat(), 0, 0, 0, 20, 0, 0, 0, 0, 0, 0, 0);
        BellTheCat cat = new BellTheCat();
        cat.night(0);
        counts("a new one, belled", cat, 0, 0, 0, 20, 1, 0, 1, 0, 0, 1, 0);
    }

    private static void countingTheMost() {
        BellTheCat cat = States.full();
        counts("a full one", cat, 6, 5, 4, 33, 1, 62, 0, 2, 6, 8, 6);
        Check.write(cat, " ".repeat(154));
        Check.due("letters", 160, cat.count(10));
        for (int s = 0; s < 5; s++) {
            cat.put(s, 1);
        }
        Check.due("steps that have one", 5, cat.count(7));
        Check.due("undone at most", 8, cat.count(9));
    }

    /** "0 MICE .. 10 letters of THE TEXT. OUTSIDE." */
    private static void countingByWhat() {
        BellTheCat cat = States.full();
        for (int what : new int[] {-1, 11, 12, 16, 32, Integer.MIN_VALUE, Integer.MAX_VALUE}) {
            Check.due("count(" + what + ")", OUTSIDE, cat.count(what));
        }
        for (int what = 0; what <= 10; what++) {
            int told = what;
            Check.foretells("count(" + what + ")", States::full, x -> x.count(told));
        }
    }
}
