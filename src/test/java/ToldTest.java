/** Promises 1 to 10: what is told, in texts read to their first fault. */
public final class ToldTest {
    private static final String ALL_KINDS = "plain 5 20 1;deaf 6 30 2;coward 9 80 3;brave 4 10 0";

    public static void main(String[] args) {
        newObject();
        writing();
        faultsOfWords();
        faultsOfNumbers();
        faultsOfEnds();
        faultsOfTooMany();
        housing();
        whatStaysAndWhatEnds();
        ofMiceStepsRats();
        takenAs();
        dangers();
        Check.end();
    }

    private static void newObject() {
        BellTheCat cat = new BellTheCat();
        int[] want = {0, 0, 0, 20, 0, 0, 0, 0, 0, 0, 0};
        for (int what = 0; what < want.length; what++) {
            Check.due("new: count(" + what + ")", want[what], cat.count(what));
        }
        Check.due("new: mouse", BellTheCat.UNKNOWN, cat.mouse(0, 0));
        Check.due("new: step", BellTheCat.UNKNOWN, cat.step(0, 0));
        Check.due("new: undo", BellTheCat.NOT, cat.undo());
        Check.due("new: back", BellTheCat.NOT, cat.back(0));
    }

    private static void writing() {
        BellTheCat cat = new BellTheCat();
        Check.due("erase() of nothing", 0, cat.erase());
        Check.due("write(-1)", BellTheCat.OUTSIDE, cat.write(-1));
        Check.due("write(256)", BellTheCat.OUTSIDE, cat.write(256));
        Check.due("write(MIN)", BellTheCat.OUTSIDE, cat.write(Integer.MIN_VALUE));
        Check.due("write(0)", 1, cat.write(0));
        Check.due("write(255)", 2, cat.write(255));
        for (int i = 3; i <= 160; i++) {
            Check.due("write the " + i + "th", i, cat.write(' '));
        }
        Check.due("write the 161st", BellTheCat.FULL, cat.write('a'));
        Check.due("write(256) when full", BellTheCat.OUTSIDE, cat.write(256));
        Check.due("count(10)", 160, cat.count(10));
        Check.due("erase()", 160, cat.erase());
        Check.due("count(10) then", 0, cat.count(10));
        Check.due("write anew", 1, cat.write('q'));
    }

    private static void faultsOfWords() {
        Check.faultOf("quiet", BellTheCat.NONE);
        Check.faultOf("house", BellTheCat.NONE);
        Check.faultOf("  quiet  ;  house  ", BellTheCat.NONE);
        Check.faultOf("cheese", 0);
        Check.faultOf("   cheese", 3);
        Check.faultOf("quie", 0);
        Check.faultOf("quiets", 0);
        Check.faultOf("quietz", 0);
        Check.faultOf("quieta", 0);
        Check.faultOf("Quiet", 0);
        Check.faultOf("quieT", 0);
        Check.faultOf("quiet;housE", 6);
        Check.faultOf("quietT", 5);
        Check.faultOf("quiet house", 6);
        Check.faultOf("quiethouse", 0);
        Check.faultOf("quiet.", 5);
        Check.faultOf("quiet\thouse", 5);
        Check.faultOf("\u00e9quiet", 0);
        Check.faultOf("quiet;;house", 6);
        Check.faultOf(";quiet", 0);
        Check.faultOf("7 step", 0);
        Check.faultOf("quiet 7", 6);
        Check.faultOf("step seven", 5);
        Check.faultOf("st ep 7", 0);
        Check.faultOf("step -7", 5);
        Check.faultOf("plain 1;2 3", 7);
        Check.faultOf("plain 1,2,3", 7);
        Check.faultOf("plain 1 2 3 4", 12);
        Check.faultOf("mouse 1 2 3", 0);
        Check.faultOf("quiet;quiet;cheese;quiet", 12);
    }

    private static void faultsOfNumbers() {
        Check.faultOf("plain5 20 1;deaf6 30 2;coward9 80 3;brave4 10 0;step7;rat10 5 5;gain30", BellTheCat.NONE);
        Check.faultOf("plain 9 99 9", BellTheCat.NONE);
        Check.faultOf("plain 09 00 09", BellTheCat.NONE);
        Check.faultOf("plain 009 0 9", 6);
        Check.faultOf("plain 10 9 9", 6);
        Check.faultOf("deaf 10 9 9", 5);
        Check.faultOf("coward 9 100 9", 9);
        Check.faultOf("brave 9 99 10", 11);
        Check.faultOf("brave 99999999999999999999 99 10", 6);
        Check.faultOf("plain 12 3", 6);
        Check.faultOf("plain 1 23", 10);
        Check.faultOf("step 15", BellTheCat.NONE);
        Check.faultOf("step 16", 5);
        Check.faultOf("step 015", 5);
        Check.faultOf("step 4294967297", 5);
        Check.faultOf("step 7 8", 7);
        Check.faultOf("rat 99 10 10", BellTheCat.NONE);
        Check.faultOf("rat 100 10 10", 4);
        Check.faultOf("rat 99 11 10", 7);
        Check.faultOf("rat 99 10 11", 10);
        Check.faultOf("gain 99", BellTheCat.NONE);
        Check.faultOf("gain 0", BellTheCat.NONE);
        Check.faultOf("gain 100", 5);
    }

    private static void faultsOfEnds() {
        Check.faultOf("", 0);
        Check.faultOf("   ", 3);
        Check.faultOf("quiet;", 6);
        Check.faultOf("quiet; ", 7);
        Check.faultOf("step", 4);
        Check.faultOf("step  ", 6);
        Check.faultOf("plain", 5);
        Check.faultOf("plain 1", 7);
        Check.faultOf("plain 1 2 ", 10);
        Check.faultOf("rat 1 1", 7);
        Check.faultOf("gain", 4);
        Check.faultOf("step;", 4);
    }

    private static void faultsOfTooMany() {
        String mice = "plain1 1 1;deaf1 1 1;coward1 1 1;brave1 1 1;plain1 1 1;plain1 1 1";
        Check.faultOf(mice, BellTheCat.NONE);
        Check.faultOf(mice + "; brave 1 1 1", mice.length() + 2);
        Check.faultOf(mice + ";brave", mice.length() + 1);
        Check.faultOf(mice + ";house;brave 1 1 1", BellTheCat.NONE);
        Check.faultOf(mice + ";quiet;brave 1 1 1", mice.length() + 7);
        Check.faultOf("step1;step1;step1;step1;step1", BellTheCat.NONE);
        Check.faultOf("step1;step1;step1;step1;step1;step1", 30);
        Check.faultOf("step1;step1;step1;step1;step1;quiet;step1", BellTheCat.NONE);
        Check.faultOf("step1;step1;step1;step1;step1;house;step1", BellTheCat.NONE);
        Check.faultOf("rat1 1 1;rat1 1 1;rat1 1 1;rat1 1 1", BellTheCat.NONE);
        Check.faultOf("rat1 1 1;rat1 1 1;rat1 1 1;rat1 1 1;rat1 1 1", 36);
        Check.faultOf("rat1 1 1;rat1 1 1;rat1 1 1;rat1 1 1;quiet;rat1 1 1", 42);
        String fourteen = "quiet" + ";quiet".repeat(13);
        Check.faultOf(fourteen, BellTheCat.NONE);
        Check.faultOf(fourteen + " ", BellTheCat.NONE);
        Check.faultOf(fourteen + " ;quiet", fourteen.length() + 1);
        Check.faultOf(fourteen + ";", fourteen.length());
        Check.faultOf(fourteen + "quiet", fourteen.length() - 5);
        BellTheCat cat = Check.told("step1;step1;step1;step1");
        Check.write(cat, "step 1;step 1");
        Check.due("a sixth by two texts", 7, cat.fault());
    }

    private static void housing() {
        BellTheCat cat = new BellTheCat();
        Check.due("house() of nothing", BellTheCat.NOT, cat.house());
        Check.write(cat, ALL_KINDS + ";step 16");
        Check.due("house() with a fault", BellTheCat.NOT, cat.house());
        Check.due("no mice by it", 0, cat.count(0));
        Check.due("the text stays", ALL_KINDS.length() + 8, cat.count(10));
        cat.erase();
        Check.write(cat, ALL_KINDS);
        Check.due("fault() changes nothing", BellTheCat.NONE, cat.fault());
        Check.due("no mice by fault()", 0, cat.count(0));
        Check.due("house()", 4, cat.house());
        Check.due("mice", 4, cat.count(0));
        Check.due("all live", 15, cat.count(5));
        Check.due("the text is empty", 0, cat.count(10));
        Check.due("house() again", BellTheCat.NOT, cat.house());
        Check.tell(cat, "plain 1 2 3;house;step 3;quiet;step 4;gain 7;rat 1 2 3");
        int[] want = {0, 1, 1, 7};
        for (int what = 0; what < want.length; what++) {
            Check.due("in their order: count(" + what + ")", want[what], cat.count(what));
        }
        Check.due("the noise of the later", 4, cat.step(0, 0));
        Check.tell(cat, "plain 1 2 3;house");
        Check.due("mice as at first", 0, cat.count(0));
        Check.due("steps as at first", 0, cat.count(1));
        Check.due("rats as at first", 0, cat.count(2));
        Check.due("gain as at first", 20, cat.count(3));
    }

    private static void whatStaysAndWhatEnds() {
        BellTheCat cat = Check.told("plain 0 10 1;plain 0 20 2;step 5;rat 3 4 5;gain 11");
        cat.put(0, 0);
        cat.seen(0, 1);
        cat.keep(0);
        cat.keep(1);
        cat.night(1);
        Check.due("one is caught", 2, cat.count(5));
        cat.put(0, 1);
        cat.night(5);
        Check.due("the bell is on", 1, cat.count(6));
        Check.tell(cat, "brave 2 2 2");
        int[] want = {3, 1, 1, 11, 0, 7, 0, 0, 0, 0, 0};
        for (int what = 0; what < want.length; what++) {
            Check.due("behind a text: count(" + what + ")", want[what], cat.count(what));
        }
        Check.due("nothing is kept as 0", BellTheCat.NOT, cat.back(0));
        Check.due("nothing is kept as 1", BellTheCat.NOT, cat.back(1));
        Check.due("nobody does it", BellTheCat.NONE, cat.step(0, 1));
        Check.due("the first mouse stays", 10, cat.mouse(0, 2));
        Check.due("the third mouse", 3, cat.mouse(2, 0));
    }

    private static void ofMiceStepsRats() {
        BellTheCat cat = Check.told("deaf 5 20 1;brave 4 99 9;step 7;step 15;rat 10 5 6;rat 99 10 0");
        int[] deaf = {1, 5, 20, 1, 1, 0};
        int[] brave = {3, 4, 99, 9, 1, 0};
        for (int what = 0; what < 6; what++) {
            Check.due("mouse(0, " + what + ")", deaf[what], cat.mouse(0, what));
            Check.due("mouse(1, " + what + ")", brave[what], cat.mouse(1, what));
        }
        cat.put(0, 1);
        cat.put(1, 1);
        Check.due("steps by bits", 3, cat.mouse(1, 5));
        Check.due("none of them", 0, cat.mouse(0, 5));
        Check.due("who does it", 1, cat.step(1, 1));
        Check.due("noise", 15, cat.step(1, 0));
        Check.due("price", 99, cat.rat(1, 0));
        Check.due("skill", 5, cat.rat(0, 1));
        Check.due("word", 6, cat.rat(0, 2));
        for (int none : new int[] {-1, 2, 6, Integer.MAX_VALUE, Integer.MIN_VALUE}) {
            Check.due("no such mouse", BellTheCat.UNKNOWN, cat.mouse(none, 9));
            Check.due("no such step", BellTheCat.UNKNOWN, cat.step(none, 9));
            Check.due("no such rat", BellTheCat.UNKNOWN, cat.rat(none, 9));
        }
        for (int what : new int[] {-1, 6, Integer.MAX_VALUE, Integer.MIN_VALUE}) {
            Check.due("mouse: what " + what, BellTheCat.OUTSIDE, cat.mouse(0, what));
            Check.due("step: what " + what, BellTheCat.OUTSIDE, cat.step(0, what));
            Check.due("rat: what " + what, BellTheCat.OUTSIDE, cat.rat(0, what));
        }
        Check.due("step: what 2", BellTheCat.OUTSIDE, cat.step(0, 2));
        Check.due("rat: what 3", BellTheCat.OUTSIDE, cat.rat(0, 3));
    }

    private static void takenAs() {
        BellTheCat cat = Check.told("plain 4 0 0;deaf 4 0 0;coward 9 0 0;brave 4 0 0");
        int not = BellTheCat.NOT;
        int[][] want = {{2, 2, not, not, not}, {4, 4, 4, not, not},
            {10, not, not, 10, not}, {1, 1, not, not, 1}};
        for (int m = 0; m < 4; m++) {
            for (int kind = 0; kind < 5; kind++) {
                Check.due("as(" + m + ", " + kind + ")", want[m][kind], cat.as(m, kind));
            }
            Check.due("as(" + m + ", 5)", BellTheCat.OUTSIDE, cat.as(m, 5));
            Check.due("as(" + m + ", -1)", BellTheCat.OUTSIDE, cat.as(m, -1));
        }
        Check.due("as(4, 5)", BellTheCat.UNKNOWN, cat.as(4, 5));
        Check.due("as(-1, 0)", BellTheCat.UNKNOWN, cat.as(-1, 0));
    }

    private static void dangers() {
        /* Noises ahead of, at and behind each edge: less speed, 1, 5 and 6, above 10. */
        BellTheCat cat = Check.told("plain 3 0 0;deaf 3 0 0;coward 3 0 0;brave 3 0 0;coward 0 0 0;brave 0 0 0;"
            + "step 3;step 4;step 5;step 6;step 12");
        int[][] want = {{0, 0, 0, 0, 3, 2}, {1, 3, 1, 0, 4, 3}, {2, 4, 2, 1, 5, 4},
            {3, 5, 10, 2, 10, 5}, {9, 10, 10, 8, 10, 9}};
        for (int s = 0; s < 5; s++) {
            for (int m = 0; m < 6; m++) {
                Check.due("danger(" + s + ", " + m + ")", want[s][m], cat.danger(s, m));
            }
        }
        Check.due("danger(5, 0)", BellTheCat.UNKNOWN, cat.danger(5, 0));
        Check.due("danger(-1, 0)", BellTheCat.UNKNOWN, cat.danger(-1, 0));
        Check.due("danger(0, 6)", BellTheCat.UNKNOWN, cat.danger(0, 6));
        Check.due("danger(0, -1)", BellTheCat.UNKNOWN, cat.danger(0, -1));
        BellTheCat loud = Check.told("plain 0 0 0;deaf 1 0 0;brave 0 0 0;plain 9 0 0;step 15;step 0");
        int[] most = {10, 10, 9, 6};
        for (int m = 0; m < 4; m++) {
            Check.due("danger of 15 to " + m, most[m], loud.danger(0, m));
            Check.due("danger of 0 to " + m, 0, loud.danger(1, m));
        }
    }
}
