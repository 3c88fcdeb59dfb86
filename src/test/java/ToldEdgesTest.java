import java.util.List;

/** The edges that section 1 of the document and promises 1 to 10 name, each sentence by a test of its own. */
public final class ToldEdgesTest {
    private static final int NONE = BellTheCat.NONE;
    private static final int NOT = BellTheCat.NOT;
    private static final int FULL = BellTheCat.FULL;
    private static final String[] KINDS = {"plain", "deaf", "coward", "brave"};
    /* Each clause with its tokens apart, and how high each of its numbers may be. */
    private static final String[][] CLAUSES = {{"plain", "1", "2", "3"}, {"deaf", "1", "2", "3"},
        {"coward", "1", "2", "3"}, {"brave", "1", "2", "3"}, {"step", "1"}, {"rat", "1", "2", "3"},
        {"gain", "1"}, {"house"}, {"quiet"}};
    private static final int[][] BOUNDS = {{9, 99, 9}, {9, 99, 9}, {9, 99, 9}, {9, 99, 9}, {15}, {99, 10, 10},
        {99}, {}, {}};

    public static void main(String[] args) {
        noneAtFirst();
        everyLetter();
        oneHundredAndSixtyLetters();
        aFullTextIsRead();
        erasing();
        erasingChangesNothingElse();
        boundsOfNumbers();
        boundsAreKeptAsTold();
        oneOrTwoDigits();
        belowZero();
        sixMice();
        fiveSteps();
        fourRats();
        tooManyAtTheirWord();
        oneToFourteenClauses();
        anEmptyText();
        theEndTooSoon();
        oneNumberTooMany();
        blanksAnywhere();
        blanksAreNeeded();
        onlyBlanksAreBlank();
        tokensOfOneLetter();
        wordsAsWritten();
        theFirstFault();
        faultChangesNothing();
        houseIsAsAtFirst();
        quietLeavesTheRest();
        doneInTheirOrder();
        earlierTextsStay();
        behindThem();
        whatOfEach();
        takenAsWhatHeIs();
        takenAsByEdges();
        dangerOfAll();
        dangerAtTheEdges();
        dangerToTheDead();
        Check.end();
    }

    private static String many(String clause, int times) {
        return (clause + ";").repeat(times).replaceAll(";$", "");
    }

    // ---- promises 1 to 3

    /** "No MICE, no STEPS." "(none at first)" "(20 at first)" */
    private static void noneAtFirst() {
        BellTheCat cat = new BellTheCat();
        Check.same("a new object", List.of(-2L, -2L, -2L, -2L, -2L, 0L, 0L, 0L, 0L, 0L, 0L, 0L, 20L, 0L, 0L, 0L, 0L,
            0L, 0L, 0L, 1L, 0L, 0L), View.of(cat));
        Check.due("back(0)", NOT, cat.back(0));
        Check.due("back(1)", NOT, cat.back(1));
        Check.due("undo()", NOT, cat.undo());
    }

    /** "A letter (its number, 0 .. 255) more of THE TEXT: how many it has." */
    private static void everyLetter() {
        BellTheCat cat = new BellTheCat();
        for (int letter = 0; letter <= 255; letter++) {
            if (letter == 128) {
                Check.due("erase()", 128, cat.erase());
            }
            Check.due("write(" + letter + ")", letter % 128 + 1, cat.write(letter));
        }
        Check.due("write(256)", BellTheCat.OUTSIDE, cat.write(256));
        Check.due("write(-1)", BellTheCat.OUTSIDE, cat.write(-1));
        Check.due("letters", 128, cat.count(10));
    }

    /** "THE TEXT is a row of letters, 160 at most" */
    private static void oneHundredAndSixtyLetters() {
        BellTheCat cat = new BellTheCat();
        for (int i = 1; i <= 160; i++) {
            Check.due("write the " + i + "th", i, cat.write('a'));
        }
        Check.due("the 161st", FULL, cat.write('a'));
        Check.due("letters", 160, cat.count(10));
        Check.due("the 162nd", FULL, cat.write('a'));
        Check.due("erase()", 160, cat.erase());
        for (int i = 1; i <= 160; i++) {
            Check.due("anew, the " + i + "th", i, cat.write('a'));
        }
        Check.due("anew, the 161st", FULL, cat.write('a'));
    }

    /** A text of all 160 letters can be as right, and as wrong, as any. */
    private static void aFullTextIsRead() {
        BellTheCat cat = new BellTheCat();
        Check.write(cat, " ".repeat(152) + "step  15");
        Check.due("fault() of 160", NONE, cat.fault());
        Check.due("house() of 160", 1, cat.house());
        Check.due("its last letter counts", 15, cat.step(0, 0));
        Check.due("write behind it", 1, cat.write('q'));
        Check.faultOf(" ".repeat(152) + "step  16", 158);
        Check.faultOf(" ".repeat(152) + "step   ;", 159);
        Check.faultOf(" ".repeat(156) + "step", 160);
        Check.faultOf(" ".repeat(160), 160);
        Check.faultOf(" ".repeat(154) + "quiet;", 160);
        Check.faultOf("a".repeat(160), 0);
        Check.faultOf("1".repeat(160), 0);
        Check.faultOf("step" + "1".repeat(156), 4);
        BellTheCat cut = new BellTheCat();
        Check.write(cut, " ".repeat(156) + "steps");
        Check.due("the 161st is not there", 160, cut.fault());
    }

    /** "THE TEXT is empty: how many letters it had." */
    private static void erasing() {
        BellTheCat cat = new BellTheCat();
        Check.due("of none", 0, cat.erase());
        cat.write('q');
        Check.due("of one", 1, cat.erase());
        Check.due("of none again", 0, cat.erase());
        Check.write(cat, "quiet");
        Check.due("of five", 5, cat.erase());
        Check.due("letters", 0, cat.count(10));
        Check.due("nothing is left to read", 0, cat.fault());
        Check.write(cat, "house");
        Check.due("what is read is new", NONE, cat.fault());
        cat.erase();
        Check.write(cat, "plain 1 2 3");
        cat.erase();
        Check.write(cat, "plain 1 2 ");
        Check.due("no number is left of the former text", 10, cat.fault());
        cat.erase();
        Check.write(cat, "quiet;quiet");
        cat.erase();
        Check.write(cat, "quiet;");
        Check.due("no word is left of the former text", 6, cat.fault());
    }

    private static void erasingChangesNothingElse() {
        BellTheCat cat = States.full();
        BellTheCat twin = States.full();
        Check.due("erase()", 6, cat.erase());
        Check.write(cat, "gain 5");
        Check.same("erased and written again", View.toTheEnd(twin), View.toTheEnd(cat));
    }

    // ---- promise 4

    /** "of SPEED (0 .. 9), FEAR (0 .. 99), TICKETS (0 .. 9)", and so on: every number, on and off its bounds. */
    private static void boundsOfNumbers() {
        for (int c = 0; c < CLAUSES.length; c++) {
            for (int i = 0; i < BOUNDS[c].length; i++) {
                String[] tokens = CLAUSES[c].clone();
                for (int number = 0; number <= 120; number++) {
                    tokens[i + 1] = String.valueOf(number);
                    int place = String.join(" ", List.of(tokens).subList(0, i + 1)).length() + 1;
                    Check.faultOf(String.join(" ", tokens), number <= BOUNDS[c][i] ? NONE : place);
                }
            }
        }
    }

    private static void boundsAreKeptAsTold() {
        for (int kind = 0; kind < 4; kind++) {
            for (String numbers : new String[] {"0 0 0", "9 99 9"}) {
                BellTheCat cat = Check.told(KINDS[kind] + " " + numbers);
                String[] want = numbers.split(" ");
                Check.due("kind", kind, cat.mouse(0, 0));
                for (int i = 0; i < 3; i++) {
                    Check.due(KINDS[kind] + ", " + (i + 1), Integer.parseInt(want[i]), cat.mouse(0, i + 1));
                }
            }
        }
        BellTheCat cat = Check.told("step 0;step 15;rat 0 0 0;rat 99 10 10;gain 0");
        Check.due("noise 0", 0, cat.step(0, 0));
        Check.due("noise 15", 15, cat.step(1, 0));
        int[] most = {99, 10, 10};
        for (int what = 0; what < 3; what++) {
            Check.due("rat at least", 0, cat.rat(0, what));
            Check.due("rat at most", most[what], cat.rat(1, what));
        }
        Check.due("gain 0", 0, cat.count(3));
        Check.tell(cat, "gain 99");
        Check.due("gain 99", 99, cat.count(3));
    }

    /** "numbers of 1 or 2 digits" */
    private static void oneOrTwoDigits() {
        for (int number = 0; number <= 9; number++) {
            BellTheCat cat = Check.told("step 0" + number);
            Check.due("step 0" + number, number, cat.step(0, 0));
            Check.faultOf("step 00" + number, 5);
            Check.faultOf("gain 00" + number, 5);
            Check.faultOf("gain " + number + "00", 5);
        }
        Check.faultOf("plain 09 09 09", NONE);
        Check.faultOf("plain 009 09 09", 6);
        Check.faultOf("plain 09 009 09", 9);
        Check.faultOf("plain 09 09 009", 12);
        Check.faultOf("gain 4294967295", 5);
        Check.faultOf("gain 4294967301", 5);
        Check.faultOf("gain 18446744073709551621", 5);
    }

    /** A sign is a token of its own, and none can stand there. */
    private static void belowZero() {
        Check.faultOf("gain -1", 5);
        Check.faultOf("gain +1", 5);
        Check.faultOf("gain -", 5);
        Check.faultOf("gain 1-", 6);
        Check.faultOf("rat 1 -1 1", 6);
        Check.faultOf("plain 1 1 -0", 10);
    }

    /** "MICE are 0, 1 .. as they come, 6 at most"; "a seventh .. cannot stand there (at its word)" */
    private static void sixMice() {
        for (String kind : KINDS) {
            String mouse = kind + "1 2 3";
            Check.faultOf(many(mouse, 6), NONE);
            Check.faultOf(many(mouse, 7), (mouse.length() + 1) * 6);
            for (int first = 1; first <= 6; first++) {
                BellTheCat cat = Check.told(many("plain1 2 3", first));
                Check.due("mice", first, cat.count(0));
                String rest = first == 6 ? "" : many(mouse, 6 - first) + ";";
                Check.write(cat, rest + "gain 1");
                Check.due(first + " and the rest", NONE, cat.fault());
                cat.erase();
                Check.write(cat, rest + mouse + ";gain 1");
                Check.due(first + " and one too many", rest.length(), cat.fault());
                Check.due("house() of it", NOT, cat.house());
                Check.due("mice stay", first, cat.count(0));
            }
        }
        BellTheCat cat = Check.told("plain0 1 2;deaf3 4 5;coward6 7 8;brave9 10 9;plain8 12 7;deaf6 14 5");
        Check.due("the sixth", 14, cat.mouse(5, 2));
        Check.due("all six live", 63, cat.count(5));
    }

    /** "STEPS are 0, 1 .. as they come, 5 at most"; "a sixth .. cannot stand there (at its word)" */
    private static void fiveSteps() {
        Check.faultOf(many("step1", 5), NONE);
        Check.faultOf(many("step1", 6), 30);
        for (int first = 1; first <= 5; first++) {
            BellTheCat cat = Check.told(many("step 1", first));
            Check.due("steps", first, cat.count(1));
            String rest = first == 5 ? "" : many("step 2", 5 - first) + ";";
            Check.write(cat, rest + "gain 1");
            Check.due(first + " and the rest", NONE, cat.fault());
            cat.erase();
            Check.write(cat, rest + "step 3");
            Check.due(first + " and one too many", rest.length(), cat.fault());
            Check.due("house() of it", NOT, cat.house());
            Check.due("steps stay", first, cat.count(1));
        }
        BellTheCat cat = Check.told("step1;step2;step3;step4;step5");
        Check.due("the fifth", 5, cat.step(4, 0));
    }

    /** "RATS are 0, 1 .. as they come, 4 at most"; "a fifth cannot stand there (at its word)" */
    private static void fourRats() {
        Check.faultOf(many("rat1 2 3", 4), NONE);
        Check.faultOf(many("rat1 2 3", 5), 36);
        for (int first = 1; first <= 4; first++) {
            BellTheCat cat = Check.told(many("rat 1 2 3", first));
            Check.due("rats", first, cat.count(2));
            String rest = first == 4 ? "" : many("rat 4 5 6", 4 - first) + ";";
            Check.write(cat, rest + "gain 1");
            Check.due(first + " and the rest", NONE, cat.fault());
            cat.erase();
            Check.write(cat, rest + "rat 7 8 9");
            Check.due(first + " and one too many", rest.length(), cat.fault());
            Check.due("house() of it", NOT, cat.house());
            Check.due("rats stay", first, cat.count(2));
        }
        BellTheCat cat = Check.told("rat1 1 1;rat2 2 2;rat3 3 3;rat4 5 6");
        Check.due("the fourth", 6, cat.rat(3, 2));
    }

    /** The word of one too many comes ahead of what is wrong behind it; house and quiet make room. */
    private static void tooManyAtTheirWord() {
        String mice = many("plain1 1 1", 6);
        Check.faultOf(mice + ";deaf 10 1 1", mice.length() + 1);
        Check.faultOf(mice + ";deaf", mice.length() + 1);
        Check.faultOf(mice + ";house;deaf 9 1 1", NONE);
        Check.faultOf(mice + ";house;deaf 10 1 1", mice.length() + 12);
        Check.faultOf(mice + ";quiet;deaf 9 1 1", mice.length() + 7);
        String steps = many("step1", 5);
        Check.faultOf(steps + ";step 16", 30);
        Check.faultOf(steps + ";step", 30);
        Check.faultOf(steps + ";quiet;" + steps, NONE);
        Check.faultOf(steps + ";house;" + steps, NONE);
        Check.faultOf(steps + ";quiet;" + steps + ";step1", 66);
        String rats = many("rat1 1 1", 4);
        Check.faultOf(rats + ";rat 100 1 1", 36);
        Check.faultOf(rats + ";house;" + rats, NONE);
        Check.faultOf(rats + ";quiet;rat1 1 1", 42);
        /* Each kind of thing has its own room: a full house takes no more of any, and yet a gain. */
        BellTheCat cat = States.full();
        cat.erase();
        Check.write(cat, "gain 7");
        Check.due("a gain to a full house", NONE, cat.fault());
        for (String clause : new String[] {"plain 1 1 1", "brave 1 1 1", "step 1", "rat 1 1 1"}) {
            cat.erase();
            Check.write(cat, clause);
            Check.due(clause + " to a full house", 0, cat.fault());
        }
    }

    /** "CLAUSES with ; between, 1 to 14"; "behind the 14th no ; can stand" */
    private static void oneToFourteenClauses() {
        for (int clauses = 1; clauses <= 14; clauses++) {
            BellTheCat cat = new BellTheCat();
            Check.write(cat, many("gain " + clauses, clauses));
            Check.due("fault() of " + clauses, NONE, cat.fault());
            Check.due("house() of " + clauses, clauses, cat.house());
        }
        String fourteen = many("quiet", 14);
        Check.faultOf(fourteen + "   ", NONE);
        Check.faultOf(fourteen + ";", 83);
        Check.faultOf(fourteen + "  ;", 85);
        Check.faultOf(fourteen + ";quiet", 83);
        Check.faultOf(fourteen + ";cheese", 83);
        Check.faultOf(fourteen + " quiet", 84);
        Check.faultOf(many("quiet", 13) + ";", 78);
        Check.faultOf(many("quiet", 13) + ";;", 78);
    }

    /** "an empty TEXT ends too soon" */
    private static void anEmptyText() {
        Check.faultOf("", 0);
        for (int blanks = 1; blanks <= 5; blanks++) {
            Check.faultOf(" ".repeat(blanks), blanks);
        }
        BellTheCat cat = States.full();
        cat.erase();
        Check.due("of a full house", 0, cat.fault());
        Check.due("house() of it", NOT, cat.house());
        Check.faultOf(";", 0);
        Check.faultOf(" ;", 1);
    }

    /** "or at the end, if it comes too soon": behind each token but the last of each clause, and behind each ; */
    private static void theEndTooSoon() {
        for (String[] clause : CLAUSES) {
            String text = "";
            for (int i = 0; i < clause.length - 1; i++) {
                text += (i == 0 ? "" : " ") + clause[i];
                Check.faultOf(text, text.length());
                Check.faultOf(text + "   ", text.length() + 3);
                Check.faultOf("quiet;" + text, text.length() + 6);
                Check.faultOf(text + ";", text.length());
                Check.faultOf(text + " ;quiet", text.length() + 1);
            }
            String whole = String.join(" ", clause);
            Check.faultOf(whole, NONE);
            Check.faultOf(whole + ";", whole.length() + 1);
            Check.faultOf(whole + "; ", whole.length() + 2);
            Check.faultOf(whole + ";;", whole.length() + 1);
        }
    }

    private static void oneNumberTooMany() {
        for (String[] clause : CLAUSES) {
            String text = String.join(" ", clause);
            Check.faultOf(text + " 1", text.length() + 1);
            Check.faultOf(text + " quiet", text.length() + 1);
            Check.faultOf(text + ",", text.length());
        }
    }

    /** "blanks (32) may stand ahead of, between and behind TOKENS" */
    private static void blanksAnywhere() {
        Check.faultOf("   rat   1   2   3   ;   step   4   ;   house   ", NONE);
        Check.faultOf("rat1 2 3;step4;house", NONE);
        BellTheCat cat = Check.told("  brave  9  8  7  ;  gain  6  ");
        Check.due("fear", 8, cat.mouse(0, 2));
        Check.due("gain", 6, cat.count(3));
    }

    /** "none is needed but between two words, two numbers" */
    private static void blanksAreNeeded() {
        Check.faultOf("gain1;gain2", NONE);
        Check.faultOf("plain1 2 3", NONE);
        Check.faultOf("plain12 3", 5);
        Check.faultOf("plain1 23", 9);
        Check.faultOf("plain123", 5);
        Check.faultOf("quiethouse", 0);
        Check.faultOf("quiet house", 6);
        Check.faultOf("step1house", 5);
        Check.faultOf("ga in 1", 0);
        /* 1 and 2 are two numbers with a blank between. */
        Check.faultOf("gain 1 2", 7);
        Check.faultOf("gain 12", NONE);
    }

    /** Of all letters only 32 is passed over: each is set between a word and its number. */
    private static void onlyBlanksAreBlank() {
        for (int letter = 0; letter <= 255; letter++) {
            int want = 4;
            if (letter == ' ' || letter == '0' || letter == '1') {
                want = NONE;
            } else if (letter >= 'a' && letter <= 'z') {
                want = 0;
            }
            Check.faultOf("step" + (char) letter + "5", want);
        }
    }

    /** "(a row of small letters, a row of digits, any other letter)": each letter behind a word, ahead, in a number. */
    private static void tokensOfOneLetter() {
        for (int letter = 0; letter <= 255; letter++) {
            boolean small = letter >= 'a' && letter <= 'z';
            boolean digit = letter >= '0' && letter <= '9';
            String sign = String.valueOf((char) letter);
            Check.faultOf("quiet" + sign, letter == ' ' ? NONE : letter == ';' ? 6 : small ? 0 : 5);
            Check.faultOf(sign + "quiet", letter == ' ' ? NONE : 0);
            Check.faultOf("gain 9" + sign, letter == ' ' || digit ? NONE : letter == ';' ? 7 : 6);
            Check.faultOf("quiet" + sign + "quiet", letter == ';' ? NONE : letter == ' ' ? 6 : small ? 0 : 5);
        }
    }

    /** "As written here": no other word, no part of one, no more than it, no great letters. */
    private static void wordsAsWritten() {
        for (String[] clause : CLAUSES) {
            String rest = " 1 2 3";
            String word = clause[0];
            for (int i = 0; i < word.length(); i++) {
                String cut = word.substring(0, i) + word.substring(i + 1);
                Check.faultOf(cut + rest, 0);
                String other = word.substring(0, i) + (word.charAt(i) == 'z' ? 'y' : 'z') + word.substring(i + 1);
                Check.faultOf(other + rest, 0);
                String great = word.substring(0, i) + (char) (word.charAt(i) - 32) + word.substring(i + 1);
                Check.faultOf(great + rest, 0);
            }
            Check.faultOf(word + "s" + rest, 0);
            Check.faultOf(word + word + rest, 0);
            Check.faultOf("the" + rest, 0);
        }
    }

    /** "A FAULT is at the first TOKEN .. that cannot stand there": what stands behind it does not count. */
    private static void theFirstFault() {
        Check.faultOf("step 16;cheese", 5);
        Check.faultOf("step 15;cheese", 8);
        Check.faultOf("step 15;step 99;", 13);
        Check.faultOf("plain 10 100 10", 6);
        Check.faultOf("plain 9 100 10", 8);
        Check.faultOf("plain 9 99 10", 11);
        Check.faultOf("quiet;house;gain;" + many("quiet", 14), 16);
    }

    private static void faultChangesNothing() {
        Check.changesNothing("fault() of no fault", States::full, x -> x.fault(), NONE);
        Check.changesNothing("fault() of a fault", States::faulty, x -> x.fault(), 11);
        Check.changesNothing("fault() of a full text", States::written, x -> x.fault(), NONE);
        Check.changesNothing("fault() of nothing", BellTheCat::new, x -> x.fault(), 0);
    }

    // ---- promise 5

    private static void counts(String told, BellTheCat cat, int... want) {
        for (int what = 0; what < want.length; what++) {
            Check.due("count(" + what + ") of " + told, want[what], cat.count(what));
        }
    }

    /** "house: all as at first" */
    private static void houseIsAsAtFirst() {
        BellTheCat cat = States.full();
        cat.erase();
        Check.tell(cat, "house");
        Check.same("as a new one", View.toTheEnd(new BellTheCat()), View.toTheEnd(cat));
    }

    /** "quiet: no STEPS" */
    private static void quietLeavesTheRest() {
        BellTheCat cat = States.full();
        cat.erase();
        Check.tell(cat, "quiet");
        counts("quiet", cat, 6, 0, 4, 33, 0, 63, 0, 0, 0, 0, 0);
        Check.due("no step", BellTheCat.UNKNOWN, cat.step(0, 0));
        Check.tell(cat, "quiet");
        counts("quiet again", cat, 6, 0, 4, 33, 0, 63, 0, 0, 0, 0, 0);
    }

    /** "CLAUSES are done in their order." */
    private static void doneInTheirOrder() {
        counts("gain ahead of house", Check.told("gain 5;rat 1 1 1;step 1;plain 1 1 1;house"), 0, 0, 0, 20);
        counts("gain behind house", Check.told("house;gain 5;rat 1 1 1;step 1;plain 1 1 1"), 1, 1, 1, 5);
        counts("two gains", Check.told("gain 5;gain 6"), 0, 0, 0, 6);
        counts("steps ahead of quiet", Check.told("step 1;step 2;quiet"), 0, 0, 0, 20);
        BellTheCat cat = Check.told("step 1;quiet;step 2;step 3");
        Check.due("the first is the one behind quiet", 2, cat.step(0, 0));
        Check.due("the second", 3, cat.step(1, 0));
        BellTheCat mice = Check.told("plain 1 1 1;house;brave 2 2 2");
        Check.due("the first is the one behind house", 3, mice.mouse(0, 0));
        Check.due("his speed", 2, mice.mouse(0, 1));
    }

    /** "what earlier texts told stays" */
    private static void earlierTextsStay() {
        BellTheCat cat = Check.told("plain 1 2 3");
        Check.tell(cat, "step 4");
        Check.tell(cat, "rat 5 6 7");
        Check.tell(cat, "gain 8");
        Check.tell(cat, "deaf 9 10 9");
        counts("five texts", cat, 2, 1, 1, 8, 0, 3);
        Check.due("the first mouse", 2, cat.mouse(0, 2));
        Check.due("the second", 10, cat.mouse(1, 2));
        Check.due("the step", 4, cat.step(0, 0));
        Check.due("the rat", 7, cat.rat(0, 2));
    }

    /**
     * "Behind them it is NIGHT 0, all MICE live, the BELL is not on, THE TEAM
     * has nobody, nothing is SEEN, nothing is kept or can be undone."
     */
    private static void behindThem() {
        BellTheCat cat = States.full();
        Check.due("house()", 1, cat.house());
        counts("the full house", cat, 6, 5, 4, 5, 0, 63, 0, 0, 0, 0, 0);
        for (int s = 0; s < 5; s++) {
            Check.due("nobody does " + s, NONE, cat.step(s, 1));
        }
        Check.due("mouse 0 lives again", 1, cat.mouse(0, 4));
        Check.due("all teams can be", 7776, cat.teams(0));
        Check.due("back(0)", NOT, cat.back(0));
        Check.due("back(1)", NOT, cat.back(1));
        Check.due("undo()", NOT, cat.undo());
        BellTheCat belled = States.belled();
        Check.tell(belled, "gain 20");
        counts("the belled house", belled, 2, 2, 0, 20, 0, 3, 0, 0, 0, 0, 0);
        Check.due("back(0) of it", NOT, belled.back(0));
        BellTheCat extinct = States.extinct();
        Check.tell(extinct, "plain 1 1 1");
        counts("the house with nobody left", extinct, 2, 1, 0, 20, 0, 3, 0, 0, 0, 0, 0);
    }

    // ---- promises 6 to 10

    /** "KIND (what 0) .. by bits (5)", "NOISE (what 0), who does it (1; NONE)", "PRICE (what 0) .. WORD (2)" */
    private static void whatOfEach() {
        BellTheCat cat = States.full();
        int[][] mice = {{0, 0, 9, 4, 0, 0}, {1, 1, 8, 3, 1, 2}, {2, 2, 7, 2, 1, 0}, {3, 3, 6, 1, 1, 0},
            {0, 4, 5, 0, 1, 0}, {1, 5, 4, 9, 1, 1}};
        for (int m = 0; m < 6; m++) {
            for (int what = 0; what < 6; what++) {
                Check.due("mouse(" + m + ", " + what + ")", mice[m][what], cat.mouse(m, what));
            }
        }
        int[][] steps = {{3, 5}, {4, 1}, {5, NONE}, {6, NONE}, {7, NONE}};
        for (int s = 0; s < 5; s++) {
            Check.due("step(" + s + ", 0)", steps[s][0], cat.step(s, 0));
            Check.due("step(" + s + ", 1)", steps[s][1], cat.step(s, 1));
        }
        int[][] rats = {{1, 2, 3}, {4, 5, 6}, {7, 8, 9}, {9, 10, 10}};
        for (int r = 0; r < 4; r++) {
            for (int what = 0; what < 3; what++) {
                Check.due("rat(" + r + ", " + what + ")", rats[r][what], cat.rat(r, what));
            }
        }
        for (int s = 0; s < 5; s++) {
            cat.put(s, 5);
        }
        Check.due("all steps, by bits", 31, cat.mouse(5, 5));
        Check.due("none, by bits", 0, cat.mouse(1, 5));
    }

    /** "KINDS of MICE are over one another", "he answers as what he is, whatever he is taken as" */
    private static void takenAsWhatHeIs() {
        BellTheCat cat = Check.told("plain 2 0 0;deaf 2 0 0;coward 2 0 0;brave 2 0 0");
        int[][] want = {{4, 4, NOT, NOT, NOT}, {6, 6, 6, NOT, NOT}, {10, NOT, NOT, 10, NOT}, {3, 3, NOT, NOT, 3}};
        for (int m = 0; m < 4; m++) {
            for (int kind = 0; kind <= 4; kind++) {
                Check.due("as(" + m + ", " + kind + ")", want[m][kind], cat.as(m, kind));
            }
        }
        Check.due("as(0, 5)", BellTheCat.OUTSIDE, cat.as(0, 5));
        Check.due("as(0, -1)", BellTheCat.OUTSIDE, cat.as(0, -1));
        BellTheCat dead = States.full();
        Check.due("as(0, 0) of the dead", 6, dead.as(0, 0));
        Check.due("as(0, 1) of the dead", 6, dead.as(0, 1));
    }

    /** "DANGER to him of a NOISE of 6", by each speed. */
    private static void takenAsByEdges() {
        int[][] want = {{6, 5, 4, 3, 2, 1, 0, 0, 0, 0}, {8, 7, 6, 5, 4, 3, 0, 0, 0, 0},
            {10, 10, 10, 10, 10, 10, 10, 10, 10, 10}, {5, 4, 3, 2, 1, 0, 0, 0, 0, 0}};
        for (int kind = 0; kind < 4; kind++) {
            for (int speed = 0; speed <= 9; speed++) {
                BellTheCat cat = Check.told(KINDS[kind] + speed + " 0 0");
                Check.due("as of " + KINDS[kind] + " " + speed, want[kind][speed], cat.as(0, 0));
            }
        }
    }

    /** DANGER of every NOISE to every kind by every SPEED, said here by the distance of the two. */
    private static void dangerOfAll() {
        /* By NOISE less SPEED, 0 .. 15. */
        int[] plain = {0, 1, 2, 3, 4, 5, 6, 7, 8, 9, 10, 10, 10, 10, 10, 10};
        int[] deaf = {0, 3, 4, 5, 6, 7, 8, 9, 10, 10, 10, 10, 10, 10, 10, 10};
        int[] brave = {0, 0, 1, 2, 3, 4, 5, 6, 7, 8, 9, 9, 9, 9, 9, 9};
        for (int noise = 0; noise <= 15; noise++) {
            for (int speed = 0; speed <= 9; speed++) {
                BellTheCat cat = Check.told("plain" + speed + " 0 0;deaf" + speed + " 0 0;coward" + speed
                    + " 0 0;brave" + speed + " 0 0;step" + noise);
                int apart = Math.max(0, noise - speed);
                String told = "danger of " + noise + " by speed " + speed;
                Check.due(told + " to a plain one", plain[apart], cat.danger(0, 0));
                Check.due(told + " to a deaf one", deaf[apart], cat.danger(0, 1));
                Check.due(told + " to a coward", noise > 5 ? 10 : plain[apart], cat.danger(0, 2));
                Check.due(told + " to a brave one", brave[apart], cat.danger(0, 3));
            }
        }
    }

    /** "(0 at least, 10 at most)", "if that is above 0", "if NOISE is above 5", "(0 at least, 10 at most always)" */
    private static void dangerAtTheEdges() {
        BellTheCat cat = Check.told("plain5 0 0;deaf5 0 0;coward5 0 0;brave5 0 0;coward0 0 0;coward9 0 0;"
            + "step4;step5;step6;step14;step15");
        int[][] want = {{0, 0, 0, 0, 4, 0}, {0, 0, 0, 0, 5, 0}, {1, 3, 10, 0, 10, 10}, {9, 10, 10, 8, 10, 10},
            {10, 10, 10, 9, 10, 10}};
        for (int s = 0; s < 5; s++) {
            for (int m = 0; m < 6; m++) {
                Check.due("danger(" + s + ", " + m + ")", want[s][m], cat.danger(s, m));
            }
        }
        BellTheCat deaf = Check.told("deaf0 0 0;step7;step8;step9");
        Check.due("7 and 2", 9, deaf.danger(0, 0));
        Check.due("8 and 2", 10, deaf.danger(1, 0));
        Check.due("9 and 2, 10 at most", 10, deaf.danger(2, 0));
    }

    /** "DANGER .. of one who does not live [is] told as if he did" */
    private static void dangerToTheDead() {
        BellTheCat cat = States.full();
        for (int s = 0; s < 5; s++) {
            Check.due("danger(" + s + ", 0)", s + 3, cat.danger(s, 0));
        }
    }
}
