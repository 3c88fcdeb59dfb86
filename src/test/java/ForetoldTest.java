/** Promises 17 to 30: what is foretold. */
public final class ForetoldTest {
    private static final int OUTSIDE = BellTheCat.OUTSIDE;
    private static final int UNKNOWN = BellTheCat.UNKNOWN;
    private static final int NOT = BellTheCat.NOT;
    private static final int NONE = BellTheCat.NONE;
    /* Dangers by steps: plain 2 0 4, deaf 3 0 5, coward 10 0 10, brave 2 0 4. */
    private static final String FABLE =
        "plain 5 20 1;deaf 6 30 2;coward 9 80 3;brave 4 10 0;step 7;step 4;step 9";
    private static final int[] WRONG_PARTS = {-1, 2, Integer.MIN_VALUE, Integer.MAX_VALUE};

    public static void main(String[] args) {
        teamsForetold();
        teamsForetoldRefused();
        bestOfDistinct();
        bestWithRepeats();
        bestOfThoseWhoLive();
        lots();
        alones();
        hiring();
        offers();
        funds();
        ratsWorth();
        shoes();
        shoesRefused();
        callingOff();
        Check.end();
    }

    private static BellTheCat team(String text, int... doers) {
        BellTheCat cat = Check.told(text);
        for (int s = 0; s < doers.length; s++) {
            cat.put(s, doers[s]);
        }
        return cat;
    }

    /* One mouse is caught for sure at the first step, which is then quiet to the others. */
    private static BellTheCat withDead(String text, int dead) {
        BellTheCat cat = Check.told(text);
        for (int s = 0; s < cat.count(1); s++) {
            cat.put(s, dead);
        }
        int z = 0;
        while (cat.night(z) == NONE) {
            cat.undo();
            z++;
        }
        Check.due("he does not live", 0, cat.mouse(dead, 4));
        return cat;
    }

    private static void teamsForetold() {
        BellTheCat cat = team(FABLE, 0, 1, 3);
        Check.parts("through", 12, 25, cat.through(0), cat.through(1));
        Check.parts("fails(0)", 1, 5, cat.fails(0, 0), cat.fails(0, 1));
        Check.parts("fails(1)", 0, 1, cat.fails(1, 0), cat.fails(1, 1));
        Check.parts("fails(2)", 8, 25, cat.fails(2, 0), cat.fails(2, 1));
        Check.parts("loss", 36, 5, cat.loss(0), cat.loss(1));
        BellTheCat same = team(FABLE, 1, 1, 1);
        Check.parts("through of one", 7, 20, same.through(0), same.through(1));
        Check.parts("loss of one", 39, 2, same.loss(0), same.loss(1));
        BellTheCat lost = team(FABLE, 2, 0, 0);
        Check.parts("through of a coward", 0, 1, lost.through(0), lost.through(1));
        Check.parts("fails(0) of a coward", 1, 1, lost.fails(0, 0), lost.fails(0, 1));
        Check.parts("fails(2) behind him", 0, 1, lost.fails(2, 0), lost.fails(2, 1));
        Check.parts("loss of a coward", 80, 1, lost.loss(0), lost.loss(1));
        BellTheCat five = team("plain 0 97 0;plain 6 1 0;step 1;step 3;step 7;step 9;step 1", 0, 0, 0, 0, 0);
        Check.parts("through five", 1701, 100000, five.through(0), five.through(1));
        Check.parts("fails(4) of five", 189, 100000, five.fails(4, 0), five.fails(4, 1));
        Check.parts("loss of five", 97L * 98299, 100000, five.loss(0), five.loss(1));
    }

    private static void teamsForetoldRefused() {
        BellTheCat cat = team(FABLE, 0, 1);
        Check.due("through, not whole", NOT, cat.through(0));
        Check.due("fails, not whole", NOT, cat.fails(0, 0));
        Check.due("loss, not whole", NOT, cat.loss(1));
        Check.due("fails(3, 0)", UNKNOWN, cat.fails(3, 0));
        Check.due("fails(-1, 2)", UNKNOWN, cat.fails(-1, 2));
        for (int part : WRONG_PARTS) {
            Check.due("through(" + part + ")", OUTSIDE, cat.through(part));
            Check.due("fails(0, " + part + ")", OUTSIDE, cat.fails(0, part));
            Check.due("loss(" + part + ")", OUTSIDE, cat.loss(part));
            Check.due("best(" + part + ")", OUTSIDE, cat.best(part));
            Check.due("drawn(0, " + part + ")", OUTSIDE, cat.drawn(0, part));
            Check.due("alone(0, " + part + ")", OUTSIDE, cat.alone(0, part));
            Check.due("dread(0, " + part + ")", OUTSIDE, cat.dread(0, part));
            Check.due("drawn(4, " + part + ")", UNKNOWN, cat.drawn(4, part));
            Check.due("alone(4, " + part + ")", UNKNOWN, cat.alone(4, part));
            Check.due("dread(4, " + part + ")", UNKNOWN, cat.dread(4, part));
        }
        Check.due("drawn(-1, 0)", UNKNOWN, cat.drawn(-1, 0));
        Check.due("alone(-1, 0)", UNKNOWN, cat.alone(-1, 0));
        Check.due("dread(-1, 0)", UNKNOWN, cat.dread(-1, 0));
    }

    private static void best(String told, BellTheCat cat, int above, int below, int... doers) {
        Check.parts("best of " + told, above, below, cat.best(0), cat.best(1));
        for (int s = 0; s < doers.length; s++) {
            Check.due("bestOf(" + s + ") of " + told, doers[s], cat.bestOf(s));
        }
        Check.due("bestOf behind", UNKNOWN, cat.bestOf(doers.length));
        Check.due("bestOf(-1)", UNKNOWN, cat.bestOf(-1));
    }

    private static void bestOfDistinct() {
        Check.due("bestOf(2) ahead of best", 3, Check.told(FABLE).bestOf(2));
        best("the fable", Check.told(FABLE), 12, 25, 0, 1, 3);
        best("as many", Check.told("plain 9 0 0;plain 0 0 0;step 5;step 5"), 1, 2, 0, 1);
        best("the later", Check.told("plain 9 0 0;plain 5 0 0;step 5;step 9"), 1, 1, 1, 0);
        best("the last of many",
            Check.told("plain0 0 0;plain1 0 0;plain2 0 0;plain3 0 0;plain4 0 0;plain5 0 0;"
                + "step1;step2;step3;step4;step5"), 1, 1, 1, 2, 3, 4, 5);
        best("none better than 0", Check.told("coward 9 0 0;coward 9 0 0;coward 9 0 0;step 6;step 5"), 0, 1, 0, 1);
        best("no steps", Check.told("coward 9 0 0"), 1, 1);
    }

    private static void bestWithRepeats() {
        best("more steps", Check.told("plain 0 0 0;plain 9 0 0;step 1;step 0;step 9"), 1, 1, 1, 0, 1);
        best("more steps, all 0", Check.told("coward 0 0 0;coward 9 0 0;step 6;step 0;step 5"), 0, 1, 0, 0, 0);
        best("one does all", Check.told("plain 1 0 0;step 2;step 2;step 2;step 2;step 2"),
            59049, 100000, 0, 0, 0, 0, 0);
        best("by each its best", Check.told("plain 3 0 0;coward 5 0 0;step 5;step 6;step 4"), 7, 10, 1, 0, 1);
    }

    private static void bestOfThoseWhoLive() {
        BellTheCat cat = withDead("plain 2 1 1;plain 1 1 1;plain 0 1 1;step 3;step 3", 0);
        best("two who live", cat, 14, 25, 1, 2);
        BellTheCat nobody = withDead("plain 0 1 1;step 9", 0);
        Check.due("best(0), nobody lives", NOT, nobody.best(0));
        Check.due("best(2), nobody lives", OUTSIDE, nobody.best(2));
        Check.due("bestOf(0), nobody lives", NONE, nobody.bestOf(0));
        Check.due("bestOf(1), nobody lives", UNKNOWN, nobody.bestOf(1));
        best("no mice, no steps", new BellTheCat(), 1, 1);
        BellTheCat one = withDead("plain 9 1 1;plain 0 1 1;step 1;step 2", 1);
        best("more steps than who live", one, 1, 1, 0, 0);
    }

    private static void lots() {
        BellTheCat cat = Check.told(FABLE);
        Check.parts("drawn(0)", 1, 6, cat.drawn(0, 0), cat.drawn(0, 1));
        Check.parts("drawn(1)", 1, 3, cat.drawn(1, 0), cat.drawn(1, 1));
        Check.parts("drawn(2)", 1, 2, cat.drawn(2, 0), cat.drawn(2, 1));
        Check.parts("drawn(3)", 0, 1, cat.drawn(3, 0), cat.drawn(3, 1));
        BellTheCat two = withDead("plain 0 1 4;plain 0 1 3;plain 0 1 6;step 9", 0);
        Check.parts("drawn(0), dead", 0, 1, two.drawn(0, 0), two.drawn(0, 1));
        Check.parts("drawn(1) of two", 1, 3, two.drawn(1, 0), two.drawn(1, 1));
        Check.parts("drawn(2) of two", 2, 3, two.drawn(2, 0), two.drawn(2, 1));
        BellTheCat none = withDead("plain 0 1 4;plain 0 1 0;step 9", 0);
        Check.due("drawn(0) of none", NOT, none.drawn(0, 0));
        Check.due("drawn(1) of none", NOT, none.drawn(1, 1));
        Check.due("drawn(1, 2) of none", OUTSIDE, none.drawn(1, 2));
        Check.due("drawn(2, 0) of none", UNKNOWN, none.drawn(2, 0));
    }

    private static void alones() {
        BellTheCat cat = Check.told(FABLE);
        int[][] alone = {{13, 25}, {13, 20}, {1, 1}, {13, 25}};
        int[][] dread = {{52, 5}, {39, 2}, {80, 1}, {26, 5}};
        for (int m = 0; m < 4; m++) {
            Check.parts("alone(" + m + ")", alone[m][0], alone[m][1], cat.alone(m, 0), cat.alone(m, 1));
            Check.parts("dread(" + m + ")", dread[m][0], dread[m][1], cat.dread(m, 0), cat.dread(m, 1));
        }
        BellTheCat still = Check.told("plain 0 99 0");
        Check.parts("alone, no steps", 0, 1, still.alone(0, 0), still.alone(0, 1));
        Check.parts("dread, no steps", 0, 1, still.dread(0, 0), still.dread(0, 1));
        BellTheCat dead = withDead("plain 0 30 4;step 9;step 0", 0);
        Check.parts("alone of the dead", 9, 10, dead.alone(0, 0), dead.alone(0, 1));
        Check.parts("dread of the dead", 27, 1, dead.dread(0, 0), dead.dread(0, 1));
        Check.due("danger to the dead", 9, dead.danger(0, 0));
    }

    private static void hiring() {
        BellTheCat cat = Check.told(FABLE);
        for (int m = 0; m < 4; m++) {
            Check.due("hires(" + m + ")", 3, cat.hires(m));
        }
        Check.due("hires(4)", UNKNOWN, cat.hires(4));
        Check.due("hires(-1)", UNKNOWN, cat.hires(-1));
        BellTheCat alike = Check.told("plain 0 9 0;plain 0 5 0;plain 0 5 0;step 5");
        Check.due("hires(0): the least of several", 1, alike.hires(0));
        Check.due("hires(1): none is less", 1, alike.hires(1));
        Check.due("hires(2): himself, though alike", 2, alike.hires(2));
        BellTheCat dead = withDead("plain 0 9 0;plain 0 5 0;plain 0 7 0;step 5", 1);
        Check.due("hires(0) of who live", 2, dead.hires(0));
        Check.due("hires of the dead", NOT, dead.hires(1));
    }

    private static void offers() {
        /* Dreads 10.4, 19.5, 80, 5.2. */
        BellTheCat cat = Check.told(FABLE + ";gain 30");
        int[][] want = {{0, 3, 1}, {5, 3, 1}, {6, 1, 8}, {10, 1, 8}, {11, 1, 9}, {30, 1, 11}, {79, 1, 11},
            {80, 2, 11}, {81, 1, 15}, {99, 1, 15}};
        for (int[] row : want) {
            Check.due("rests(" + row[0] + ", 0)", row[1], cat.rests(row[0], 0));
            Check.due("rests(" + row[0] + ", 1)", row[2], cat.rests(row[0], 1));
        }
        for (int i = want.length - 1; i >= 0; i--) {
            Check.due("rests(" + want[i][0] + ", 0), backwards", want[i][1], cat.rests(want[i][0], 0));
        }
        Check.due("rests(-1, 0)", OUTSIDE, cat.rests(-1, 0));
        Check.due("rests(100, 1)", OUTSIDE, cat.rests(100, 1));
        Check.due("rests(0, 2)", OUTSIDE, cat.rests(0, 2));
        Check.due("rests(0, -1)", OUTSIDE, cat.rests(0, -1));
        /* Dread 5 and gain 5: to go alone is as good as that nobody goes. */
        BellTheCat alike = Check.told("plain 0 10 0;plain 0 10 0;step 5;gain 5");
        Check.due("none and each alone", 3, alike.rests(0, 0));
        Check.due("the least is none", 0, alike.rests(0, 1));
        Check.due("by 1 each alone", 2, alike.rests(1, 0));
        Check.due("the least of them", 1, alike.rests(1, 1));
        Check.due("by 5 all but none", 3, alike.rests(5, 0));
        Check.due("by 6 both", 3, alike.rests(6, 1));
        BellTheCat poor = Check.told("plain 0 10 0;step 5;gain 0");
        Check.due("nobody goes for nothing", 0, poor.rests(0, 1));
        Check.due("only none", 1, poor.rests(4, 0));
        Check.due("by 5 either", 2, poor.rests(5, 0));
        Check.due("by 6 he goes", 1, poor.rests(6, 1));
        Check.due("only none again", 0, poor.rests(4, 1));
        BellTheCat dead = withDead("plain 0 2 0;plain 0 10 0;step 5;gain 5", 0);
        Check.due("of who live", 2, dead.rests(0, 0));
        Check.due("the one who lives", 2, dead.rests(1, 1));
    }

    private static void funds() {
        Check.due("fund() of the fable", 0, Check.told(FABLE).fund());
        Check.due("fund() of more gain", 0, Check.told(FABLE + ";gain 6").fund());
        Check.due("fund() of no gain", 6, Check.told(FABLE + ";gain 0").fund());
        Check.due("fund() of the most dread", 99, Check.told("coward 0 99 0;step 6;gain 0").fund());
        Check.due("fund() at a whole dread", 5, Check.told("plain 0 10 0;step 5;gain 0").fund());
        Check.due("fund() of no mice", NONE, Check.told("step 6").fund());
        Check.due("fund() of who live", 3, withDead("plain 0 2 0;plain 0 10 0;step 5;gain 2", 0).fund());
        Check.due("fund() of the dead", NONE, withDead("plain 0 2 0;step 5", 0).fund());
    }

    private static void ratsWorth() {
        BellTheCat cat = Check.told("rat 10 5 5;rat 1 2 9;gain 30");
        Check.due("rats(0)", 1, cat.rats(0));
        Check.due("rats(1)", 440, cat.rats(1));
        Check.due("rats(2)", OUTSIDE, cat.rats(2));
        Check.due("rats(-1)", OUTSIDE, cat.rats(-1));
        BellTheCat alike = Check.told("rat 99 1 1;rat 2 3 4;rat 2 4 3;rat 0 1 1");
        Check.due("the least of several", 1, alike.rats(0));
        Check.due("how much", 40, alike.rats(1));
        BellTheCat none = Check.told("rat 20 10 10;rat 99 0 9");
        Check.due("none above 0", NONE, none.rats(0));
        Check.due("how much of none", NONE, none.rats(1));
        Check.due("rats(2) of none", OUTSIDE, none.rats(2));
        Check.due("the least above 0", 1, Check.told("rat 0 1 1;gain 1").rats(1));
        Check.due("the most", 9900, Check.told("rat 0 10 10;gain 99").rats(1));
    }

    private static void shoe(BellTheCat cat, int mouse, int step, int n, int p, long above, long below) {
        Check.parts("shoe(" + mouse + ", " + step + ", " + n + ", " + p + ")", above, below,
            cat.shoe(mouse, step, n, p, 0), cat.shoe(mouse, step, n, p, 1));
    }

    private static void shoes() {
        BellTheCat cat = Check.told("plain 3 0 0;deaf 3 0 0;coward 3 0 0;brave 3 0 0;"
            + "step 3;step 4;step 5;step 9;step 10");
        shoe(cat, 0, 0, 0, 0, 1, 1);
        shoe(cat, 0, 1, 0, 10, 0, 1);
        shoe(cat, 0, 2, 3, 5, 1, 2);
        shoe(cat, 0, 2, 1, 10, 0, 1);
        shoe(cat, 0, 2, 2, 10, 1, 1);
        shoe(cat, 0, 2, 8, 0, 0, 1);
        shoe(cat, 0, 1, 8, 3, 94235199, 100000000);
        shoe(cat, 1, 1, 8, 3, 94235199, 100000000);
        shoe(cat, 2, 1, 8, 3, 94235199, 100000000);
        shoe(cat, 3, 2, 8, 3, 94235199, 100000000);
        shoe(cat, 0, 3, 8, 7, 55177381, 100000000);
        shoe(cat, 3, 4, 8, 7, 55177381, 100000000);
        shoe(cat, 0, 4, 8, 10, 0, 1);
        shoe(cat, 2, 3, 8, 10, 0, 1);
        BellTheCat dead = withDead("plain 0 30 4;step 2", 0);
        shoe(dead, 0, 0, 5, 4, 2072, 3125);
        BellTheCat fast = Check.told("plain 9 0 0;step 10;step 15;step 9");
        shoe(fast, 0, 0, 8, 10, 0, 1);
        shoe(fast, 0, 1, 8, 10, 0, 1);
        shoe(fast, 0, 2, 8, 10, 1, 1);
    }

    private static void shoesRefused() {
        BellTheCat cat = Check.told("plain 3 0 0;step 3;step 4");
        Check.due("shoe: no mouse", UNKNOWN, cat.shoe(1, 0, 9, 0, 0));
        Check.due("shoe: mouse -1", UNKNOWN, cat.shoe(-1, 0, 0, 0, 0));
        Check.due("shoe: no step", UNKNOWN, cat.shoe(0, 2, 0, 11, 0));
        Check.due("shoe: step -1", UNKNOWN, cat.shoe(0, -1, 0, 0, 2));
        Check.due("shoe: n 9", OUTSIDE, cat.shoe(0, 0, 9, 0, 0));
        Check.due("shoe: n -1", OUTSIDE, cat.shoe(0, 0, -1, 0, 0));
        Check.due("shoe: p 11", OUTSIDE, cat.shoe(0, 0, 0, 11, 0));
        Check.due("shoe: p -1", OUTSIDE, cat.shoe(0, 0, 0, -1, 0));
        Check.due("shoe: part 2", OUTSIDE, cat.shoe(0, 0, 0, 0, 2));
        Check.due("shoe: part -1", OUTSIDE, cat.shoe(0, 0, 0, 0, -1));
    }

    private static void callingOff() {
        BellTheCat cat = new BellTheCat();
        long[][] want = {{1, 5, 20, 10, 5, 1}, {2, 5, 20, 10, 15, 2}, {1, 5, 10, 10, 0, 1},
            {6, 9, 99, 0, 98999901, 1000000}, {6, 0, 99, 0, 0, 1}, {6, 10, 99, 99, 99, 1},
            {3, 1, 99, 99, 0, 1}, {1, 1, 99, 11, 0, 1}, {6, 1, 99, 11, 0, 1},
            {6, 3, 97, 1, 20882307, 250000}, {6, 7, 99, 99, 14132547, 250000},
            {6, 1, 99, 10, 4217031, 1000000}, {6, 0, 0, 99, 0, 1}};
        for (long[] row : want) {
            int n = (int) row[0];
            int q = (int) row[1];
            int gain = (int) row[2];
            int loss = (int) row[3];
            Check.parts("callOff(" + n + ", " + q + ", " + gain + ", " + loss + ")", row[4], row[5],
                cat.callOff(n, q, gain, loss, 0), cat.callOff(n, q, gain, loss, 1));
        }
        int[][] wrong = {{0, 0, 0, 0, 0}, {7, 0, 0, 0, 0}, {1, 11, 0, 0, 0}, {1, -1, 0, 0, 0},
            {1, 0, 100, 0, 0}, {1, 0, -1, 0, 0}, {1, 0, 0, 100, 0}, {1, 0, 0, -1, 0},
            {1, 0, 0, 0, 2}, {1, 0, 0, 0, -1}};
        for (int[] row : wrong) {
            Check.due("callOff of " + java.util.Arrays.toString(row), OUTSIDE,
                cat.callOff(row[0], row[1], row[2], row[3], row[4]));
        }
    }
}
