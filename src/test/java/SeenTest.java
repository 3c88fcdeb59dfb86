/** Promises 31 to 35: what was seen, and how many there are of all. */
public final class SeenTest {
    private static final int OUTSIDE = BellTheCat.OUTSIDE;
    private static final int UNKNOWN = BellTheCat.UNKNOWN;
    private static final int NONE = BellTheCat.NONE;
    /* Dangers: of step 0: 0 10 3, of step 1: 0 0 0, of step 2: 1 10 10. */
    private static final String THREE = "plain 9 0 0;coward 9 0 0;plain 3 0 0;step 6;step 3;step 10";

    public static void main(String[] args) {
        seeing();
        teamsOfNothingSeen();
        teamsOfOneSeen();
        teamsOfMoreSeen();
        teamsOfTheDead();
        counting();
        Check.end();
    }

    private static void seeing() {
        BellTheCat cat = Check.told(THREE);
        Check.due("forget() of nothing", 0, cat.forget());
        for (int i = 1; i <= 6; i++) {
            Check.due("seen the " + i + "th", i, cat.seen(2, 0));
        }
        Check.due("seen the 7th", BellTheCat.FULL, cat.seen(2, 0));
        Check.due("seen(3, 0), full", UNKNOWN, cat.seen(3, 0));
        Check.due("seen(0, 3), full", UNKNOWN, cat.seen(0, 3));
        Check.due("seen(-1, 0)", UNKNOWN, cat.seen(-1, 0));
        Check.due("seen(0, -1)", UNKNOWN, cat.seen(0, -1));
        Check.due("count(8)", 6, cat.count(8));
        Check.due("count(9)", 0, cat.count(9));
        Check.due("forget()", 6, cat.forget());
        Check.due("count(8) then", 0, cat.count(8));
        Check.due("all teams again", 27, cat.teams(0));
    }

    private static void teams(String told, BellTheCat cat, int rows, int inAll, int... first) {
        Check.due("teams(0) of " + told, rows, cat.teams(0));
        Check.due("teams(1) of " + told, inAll, cat.teams(1));
        for (int s = 0; s < first.length; s++) {
            Check.due("teamOf(" + s + ") of " + told, first[s], cat.teamOf(s));
        }
        Check.due("teamOf behind", UNKNOWN, cat.teamOf(first.length));
        Check.due("teamOf(-1)", UNKNOWN, cat.teamOf(-1));
        Check.due("teams(2)", OUTSIDE, cat.teams(2));
        Check.due("teams(-1)", OUTSIDE, cat.teams(-1));
    }

    private static BellTheCat seen(String text, int... stepsAndMice) {
        BellTheCat cat = Check.told(text);
        for (int i = 0; i + 1 < stepsAndMice.length; i += 2) {
            cat.seen(stepsAndMice[i], stepsAndMice[i + 1]);
        }
        return cat;
    }

    private static void teamsOfNothingSeen() {
        teams("three", Check.told(THREE), 27, 0, 0, 0, 0);
        teams("one mouse", Check.told("coward 0 0 0;step 15;step 15"), 1, 1, 0, 0);
        teams("no mice", Check.told("step 1"), 0, 0, NONE);
        teams("no steps", Check.told("plain 1 1 1"), 1, 0);
        teams("nothing", new BellTheCat(), 1, 0);
        teams("all", Check.told("plain1 1 1;plain1 1 1;plain1 1 1;plain1 1 1;plain1 1 1;plain1 1 1;"
            + "step0;step0;step0;step0;step0"), 7776, 0, 0, 0, 0, 0, 0);
    }

    private static void teamsOfOneSeen() {
        teams("danger 0", seen(THREE, 0, 0), 0, 0, NONE, NONE, NONE);
        teams("the first step", seen(THREE, 0, 2), 9, 4, 2, 0, 0);
        teams("danger 10 itself", seen(THREE, 0, 1), 9, 2, 1, 0, 0);
        teams("the last step", seen(THREE, 2, 2), 6, 4, 0, 0, 2);
        teams("the quiet step", seen(THREE, 1, 2), 0, 0, NONE, NONE, NONE);
        teams("danger 9 ahead", seen("plain 1 0 0;step 10;step 2", 1, 0), 1, 1, 0, 0);
        teams("danger 10 ahead", seen("plain 0 0 0;step 10;step 2", 1, 0), 0, 0, NONE, NONE);
    }

    private static void teamsOfMoreSeen() {
        teams("twice the same", seen(THREE, 0, 2, 0, 2), 9, 4, 2, 0, 0);
        teams("two at one step", seen(THREE, 2, 2, 2, 0), 0, 0, NONE, NONE, NONE);
        teams("two steps", seen(THREE, 0, 2, 2, 1), 3, 6, 2, 0, 1);
        teams("two steps, the later first", seen(THREE, 2, 1, 0, 2), 3, 6, 2, 0, 1);
        teams("who cannot have been ahead", seen(THREE, 0, 1, 2, 0), 0, 0, NONE, NONE, NONE);
        teams("only one can be ahead", seen("plain 5 0 0;coward 9 0 0;step 6;step 5;step 7", 2, 1), 2, 3, 0, 0, 1);
    }

    private static void teamsOfTheDead() {
        BellTheCat cat = Check.told("plain 0 0 0;plain 0 0 0;step 9");
        cat.put(0, 0);
        Check.due("caught", 0, cat.night(1));
        cat.seen(0, 0);
        teams("one who lives no more", cat, 1, 1, 0);
    }

    private static void counting() {
        BellTheCat cat = Check.told("plain 0 1 1;deaf 0 1 1;brave 0 1 1;step 5;step 0;rat 1 1 1;gain 33");
        cat.put(0, 0);
        cat.put(1, 1);
        cat.night(1);
        cat.seen(0, 0);
        Check.write(cat, "quiet");
        int[] want = {3, 2, 1, 33, 1, 6, 0, 1, 1, 3, 5};
        for (int what = 0; what < want.length; what++) {
            Check.due("count(" + what + ")", want[what], cat.count(what));
        }
        cat.put(0, 2);
        cat.night(5);
        Check.due("count(6)", 1, cat.count(6));
        Check.due("count(4)", 2, cat.count(4));
        Check.due("count(-1)", OUTSIDE, cat.count(-1));
        Check.due("count(11)", OUTSIDE, cat.count(11));
        Check.due("count(MIN)", OUTSIDE, cat.count(Integer.MIN_VALUE));
    }
}
