import java.util.Arrays;

/**
 * Who is to bell the cat: mice, steps and rats told in texts, teams by turns,
 * nights by a number, and what can be foretold of them.
 *
 * Odds are held as whole numbers above a power of ten, so that nothing is
 * ever rounded; they are brought to lowest terms only when they are told.
 */
public final class BellTheCat {
    public static final int NONE = -1, UNKNOWN = -2, OUTSIDE = -3, NOT = -4, FULL = -5;

    private static final int MOST_MICE = 6;
    private static final int MOST_STEPS = 5;
    private static final int MOST_RATS = 4;
    private static final int MOST_LETTERS = 160;
    private static final int MOST_CLAUSES = 14;
    private static final int MOST_NUMBERS = 3;
    private static final int MOST_UNDONE = 8;
    private static final int MOST_KEPT = 2;
    private static final int MOST_SEEN = 6;
    private static final int MOST_DANGER = 10;
    private static final int MOST_PRACTICE = 8;
    private static final int MOST_TO_COME = 6;
    private static final int MOST_SPEED = 9;
    private static final int MOST_MONEY = 99;
    private static final int MOST_Z = 9999;
    private static final int LAST_NIGHT = 999;
    private static final int FIRST_GAIN = 20;
    private static final int NOISE_OF_AS = 6;
    private static final int BLANK = 32;

    /* The words of the clauses; the first four are the kinds of mice, too. */
    private static final int PLAIN = 0;
    private static final int DEAF = 1;
    private static final int COWARD = 2;
    private static final int BRAVE = 3;
    private static final int STEP = 4;
    private static final int RAT = 5;
    private static final int GAIN = 6;
    private static final int HOUSE = 7;
    private static final int QUIET = 8;
    private static final int NO_WORD = -1;

    private final Text text;
    private final House told;
    private final House draft;
    private final Team now;
    private final Undo latest;
    private final Team[] kept;
    private final boolean[] isKept;
    private final Sightings sightings;
    private final Search search;
    private final Offers offers;

    public BellTheCat() {
        text = new Text();
        told = new House();
        draft = new House();
        now = new Team();
        latest = new Undo();
        kept = new Team[MOST_KEPT];
        for (int k = 0; k < MOST_KEPT; k++) {
            kept[k] = new Team();
        }
        isKept = new boolean[MOST_KEPT];
        sightings = new Sightings();
        search = new Search();
        offers = new Offers();
    }

    // ---- what is told

    public int write(int letter) {
        if (!within(letter, 255)) {
            return OUTSIDE;
        }
        return text.append(letter) ? text.length : FULL;
    }

    public int erase() {
        int had = text.length;
        text.length = 0;
        return had;
    }

    public int fault() {
        return readDraft();
    }

    public int house() {
        if (readDraft() != NONE) {
            return NOT;
        }
        told.copyFrom(draft);
        text.length = 0;
        now.begin(told.miceCount);
        latest.depth = 0;
        sightings.size = 0;
        for (int k = 0; k < MOST_KEPT; k++) {
            isKept[k] = false;
        }
        return text.clauses;
    }

    public int mouse(int mouse, int what) {
        if (!told.hasMouse(mouse)) {
            return UNKNOWN;
        }
        switch (what) {
            case 0: return told.kinds[mouse];
            case 1: return told.speeds[mouse];
            case 2: return told.fears[mouse];
            case 3: return told.tickets[mouse];
            case 4: return now.lives(mouse) ? 1 : 0;
            case 5: return now.stepsOf(mouse);
            default: return OUTSIDE;
        }
    }

    public int step(int step, int what) {
        if (!told.hasStep(step)) {
            return UNKNOWN;
        }
        switch (what) {
            case 0: return told.noises[step];
            case 1: return now.doerOf(step);
            default: return OUTSIDE;
        }
    }

    public int rat(int rat, int what) {
        if (!told.hasRat(rat)) {
            return UNKNOWN;
        }
        switch (what) {
            case 0: return told.prices[rat];
            case 1: return told.skills[rat];
            case 2: return told.words[rat];
            default: return OUTSIDE;
        }
    }

    public int as(int mouse, int kind) {
        if (!told.hasMouse(mouse)) {
            return UNKNOWN;
        }
        if (!within(kind, 4)) {
            return OUTSIDE;
        }
        if (!canBeTakenAs(told.kinds[mouse], kind)) {
            return NOT;
        }
        return dangerOf(NOISE_OF_AS, told.kinds[mouse], told.speeds[mouse]);
    }

    public int danger(int step, int mouse) {
        if (!told.hasStep(step) || !told.hasMouse(mouse)) {
            return UNKNOWN;
        }
        return told.dangerAt(step, mouse);
    }

    // ---- teams, nights

    public int put(int step, int mouse) {
        if (!told.hasStep(step) || !told.hasMouse(mouse)) {
            return UNKNOWN;
        }
        if (!now.lives(mouse)) {
            return NOT;
        }
        latest.remember(now);
        now.setDoer(step, mouse);
        return now.filledSteps();
    }

    public int clear() {
        latest.remember(now);
        int had = now.filledSteps();
        now.dismiss();
        return had;
    }

    public int night(int z) {
        if (!within(z, MOST_Z)) {
            return OUTSIDE;
        }
        if (now.belled || !now.isWhole(told.stepCount)) {
            return NOT;
        }
        if (now.nights >= LAST_NIGHT) {
            return FULL;
        }
        latest.remember(now);
        int caught = caughtBy(z);
        if (caught == NONE) {
            now.belled = true;
        } else {
            now.lose(caught);
        }
        now.nights++;
        return caught;
    }

    public int undo() {
        return latest.restore(now) ? latest.depth : NOT;
    }

    public int keep(int k) {
        if (!within(k, MOST_KEPT - 1)) {
            return UNKNOWN;
        }
        copyTeam(now, kept[k]);
        isKept[k] = true;
        return now.nights;
    }

    public int back(int k) {
        if (!within(k, MOST_KEPT - 1)) {
            return UNKNOWN;
        }
        if (!isKept[k]) {
            return NOT;
        }
        copyTeam(kept[k], now);
        latest.depth = 0;
        return now.nights;
    }

    // ---- foretold

    public int through(int part) {
        if (!isPart(part)) {
            return OUTSIDE;
        }
        if (!now.isWhole(told.stepCount)) {
            return NOT;
        }
        return (int) partOf(comeUpTo(told.stepCount), tenTo(told.stepCount), part);
    }

    public int fails(int step, int part) {
        if (!told.hasStep(step)) {
            return UNKNOWN;
        }
        if (!isPart(part)) {
            return OUTSIDE;
        }
        if (!now.isWhole(told.stepCount)) {
            return NOT;
        }
        return (int) partOf(caughtAt(step), tenTo(step + 1), part);
    }

    public int loss(int part) {
        if (!isPart(part)) {
            return OUTSIDE;
        }
        if (!now.isWhole(told.stepCount)) {
            return NOT;
        }
        long above = 0;
        for (int step = 0; step < told.stepCount; step++) {
            above = 10 * above + told.fearOf(now.doerOf(step)) * caughtAt(step);
        }
        return (int) partOf(above, tenTo(told.stepCount), part);
    }

    public int best(int part) {
        if (!isPart(part)) {
            return OUTSIDE;
        }
        search.run(told, now.living);
        if (search.bestAbove < 0) {
            return NOT;
        }
        return (int) partOf(search.bestAbove, tenTo(told.stepCount), part);
    }

    public int bestOf(int step) {
        if (!told.hasStep(step)) {
            return UNKNOWN;
        }
        search.run(told, now.living);
        return search.bestRow[step];
    }

    public int drawn(int mouse, int part) {
        if (!told.hasMouse(mouse)) {
            return UNKNOWN;
        }
        if (!isPart(part)) {
            return OUTSIDE;
        }
        int all = 0;
        for (int m = 0; m < told.miceCount; m++) {
            all += ticketsInLot(m);
        }
        if (all == 0) {
            return NOT;
        }
        return (int) partOf(ticketsInLot(mouse), all, part);
    }

    public int alone(int mouse, int part) {
        if (!told.hasMouse(mouse)) {
            return UNKNOWN;
        }
        if (!isPart(part)) {
            return OUTSIDE;
        }
        return (int) partOf(told.aloneAbove(mouse), tenTo(told.stepCount), part);
    }

    public int dread(int mouse, int part) {
        if (!told.hasMouse(mouse)) {
            return UNKNOWN;
        }
        if (!isPart(part)) {
            return OUTSIDE;
        }
        return (int) partOf(told.dreadAbove(mouse), tenTo(told.stepCount), part);
    }

    public int hires(int mouse) {
        if (!told.hasMouse(mouse)) {
            return UNKNOWN;
        }
        if (!now.lives(mouse)) {
            return NOT;
        }
        int bold = leastAfraid();
        return told.dreadAbove(bold) < told.dreadAbove(mouse) ? bold : mouse;
    }

    public int rests(int fund, int what) {
        if (!within(fund, MOST_MONEY) || !within(what, 1)) {
            return OUTSIDE;
        }
        offers.weigh(told, now.living, fund);
        return what == 0 ? offers.howManyRest() : offers.leastAtRest();
    }

    /* A set that is not empty rests just when the dread of somebody is not
       above fund and gain together: those whose dread is below the fund rest
       as one set, and where there are none, such a one rests alone. */
    public int fund() {
        int bold = leastAfraid();
        long unit = tenTo(told.stepCount);
        for (int fund = 0; fund <= MOST_MONEY && bold != NONE; fund++) {
            if (told.dreadAbove(bold) <= (fund + told.gain) * unit) {
                return fund;
            }
        }
        return NONE;
    }

    public int rats(int what) {
        if (!within(what, 1)) {
            return OUTSIDE;
        }
        int which = NONE;
        int most = 0;
        for (int r = 0; r < told.ratCount; r++) {
            if (told.worthOf(r) > most) {
                which = r;
                most = told.worthOf(r);
            }
        }
        if (which == NONE) {
            return NONE;
        }
        return what == 0 ? which : most;
    }

    public long shoe(int mouse, int step, int n, int p, int part) {
        if (!told.hasMouse(mouse) || !told.hasStep(step)) {
            return UNKNOWN;
        }
        if (!within(n, MOST_PRACTICE) || !within(p, 10) || !isPart(part)) {
            return OUTSIDE;
        }
        long above = 0;
        for (int faster = 0; faster <= n; faster++) {
            int speed = Math.min(MOST_SPEED, told.speeds[mouse] + faster);
            if (dangerOf(told.noises[step], told.kinds[mouse], speed) == 0) {
                above += waysToChoose(n, faster) * power(p, faster) * power(10 - p, n - faster);
            }
        }
        return partOf(above, tenTo(n), part);
    }

    public long callOff(int n, int q, int gain, int loss, int part) {
        if (n < 1 || n > MOST_TO_COME || !within(q, 10) || !within(gain, MOST_MONEY)
                || !within(loss, MOST_MONEY) || !isPart(part)) {
            return OUTSIDE;
        }
        long above = 0;
        long below = 1;
        for (int left = 1; left <= n; left++) {
            above = Math.max(0, q * gain * below + (10 - q) * (above - loss * below));
            below *= 10;
        }
        return partOf(above, below, part);
    }

    // ---- what was seen

    public int seen(int step, int mouse) {
        if (!told.hasStep(step) || !told.hasMouse(mouse)) {
            return UNKNOWN;
        }
        return sightings.add(step, mouse) ? sightings.size : FULL;
    }

    public int forget() {
        int had = sightings.size;
        sightings.size = 0;
        return had;
    }

    public int teams(int what) {
        if (!within(what, 1)) {
            return OUTSIDE;
        }
        return what == 0 ? sightings.rowCount(told) : sightings.inAllRows(told);
    }

    public int teamOf(int step) {
        if (!told.hasStep(step)) {
            return UNKNOWN;
        }
        if (sightings.rowCount(told) == 0) {
            return NONE;
        }
        return leastOf(sightings.possibleAt(told, step));
    }

    public int count(int what) {
        switch (what) {
            case 0: return told.miceCount;
            case 1: return told.stepCount;
            case 2: return told.ratCount;
            case 3: return told.gain;
            case 4: return now.nights;
            case 5: return now.living;
            case 6: return now.belled ? 1 : 0;
            case 7: return now.filledSteps();
            case 8: return sightings.size;
            case 9: return latest.depth;
            case 10: return text.length;
            default: return OUTSIDE;
        }
    }

    // ---- for the calls above

    /* The clauses are done on a draft while they are read: a mouse too many
       shows itself there, and a text with a fault leaves the house alone. */
    private int readDraft() {
        draft.copyFrom(told);
        return text.readInto(draft);
    }

    private int caughtBy(int z) {
        for (int k = 0; k < told.stepCount; k++) {
            int doer = now.doerOf(k);
            if (drawOf(z, k) < told.dangerAt(k, doer)) {
                return doer;
            }
        }
        return NONE;
    }

    private int ticketsInLot(int mouse) {
        return told.hasMouse(mouse) && now.lives(mouse) ? told.tickets[mouse] : 0;
    }

    /* Who has the least dread of those who live; NONE: nobody lives. */
    private int leastAfraid() {
        int bold = NONE;
        for (int m = 0; m < told.miceCount; m++) {
            if (now.lives(m) && (bold == NONE || told.dreadAbove(m) < told.dreadAbove(bold))) {
                bold = m;
            }
        }
        return bold;
    }

    /* Above 10 to the power of step: all ahead of that step come through. */
    private long comeUpTo(int step) {
        long above = 1;
        for (int k = 0; k < step; k++) {
            above *= MOST_DANGER - told.dangerAt(k, now.doerOf(k));
        }
        return above;
    }

    /* Above 10 to the power of step + 1. */
    private long caughtAt(int step) {
        return comeUpTo(step) * told.dangerAt(step, now.doerOf(step));
    }

    private static boolean within(int number, int most) {
        return number >= 0 && number <= most;
    }

    private static boolean isPart(int part) {
        return within(part, 1);
    }

    private static int drawOf(int z, int k) {
        long x = 7919L * z + 6151L * k + 1;
        return (int) (x * x % 65521 % 10);
    }

    private static int dangerOf(int noise, int kind, int speed) {
        int bare = Math.min(MOST_DANGER, Math.max(0, noise - speed));
        switch (kind) {
            case DEAF: return bare > 0 ? Math.min(MOST_DANGER, bare + 2) : 0;
            case COWARD: return noise > 5 ? MOST_DANGER : bare;
            case BRAVE: return Math.max(0, bare - 1);
            default: return bare;
        }
    }

    /* The kinds that a mouse is taken as are numbered one above his own, as
       0 is any mouse; all but cowards are plain. */
    private static boolean canBeTakenAs(int own, int taken) {
        switch (taken) {
            case 0: return true;
            case 1: return own != COWARD;
            default: return own == taken - 1;
        }
    }

    private static void copyTeam(Team from, Team to) {
        if (from == null || to == null) {
            return;
        }
        for (int s = 0; s < MOST_STEPS; s++) {
            to.doers[s] = from.doers[s];
        }
        to.nights = from.nights;
        to.living = from.living;
        to.belled = from.belled;
    }

    private static long partOf(long above, long below, int part) {
        long divisor = commonDivisor(above, below);
        if (divisor == 0) {
            return 0;
        }
        return (part == 0 ? above : below) / divisor;
    }

    private static long commonDivisor(long a, long b) {
        long greater = a;
        long lesser = b;
        for (int round = 0; round < 200 && lesser != 0; round++) {
            long rest = greater % lesser;
            greater = lesser;
            lesser = rest;
        }
        return greater;
    }

    private static long power(int base, int exponent) {
        long product = 1;
        for (int i = 0; i < exponent; i++) {
            product *= base;
        }
        return product;
    }

    private static long tenTo(int exponent) {
        return power(10, exponent);
    }

    private static long waysToChoose(int of, int chosen) {
        long ways = 1;
        for (int i = 1; i <= chosen; i++) {
            ways = ways * (of - chosen + i) / i;
        }
        return ways;
    }

    private static int leastOf(int bits) {
        for (int m = 0; m < MOST_MICE; m++) {
            if ((bits >> m & 1) == 1) {
                return m;
            }
        }
        return NONE;
    }

    /** What texts tell: it stays until the next text. */
    private static final class House {
        final int[] kinds = new int[MOST_MICE];
        final int[] speeds = new int[MOST_MICE];
        final int[] fears = new int[MOST_MICE];
        final int[] tickets = new int[MOST_MICE];
        final int[] noises = new int[MOST_STEPS];
        final int[] prices = new int[MOST_RATS];
        final int[] skills = new int[MOST_RATS];
        final int[] words = new int[MOST_RATS];
        int miceCount;
        int stepCount;
        int ratCount;
        int gain = FIRST_GAIN;

        void copyFrom(House other) {
            for (int m = 0; m < MOST_MICE; m++) {
                kinds[m] = other.kinds[m];
                speeds[m] = other.speeds[m];
                fears[m] = other.fears[m];
                tickets[m] = other.tickets[m];
            }
            for (int s = 0; s < MOST_STEPS; s++) {
                noises[s] = other.noises[s];
            }
            for (int r = 0; r < MOST_RATS; r++) {
                prices[r] = other.prices[r];
                skills[r] = other.skills[r];
                words[r] = other.words[r];
            }
            miceCount = other.miceCount;
            stepCount = other.stepCount;
            ratCount = other.ratCount;
            gain = other.gain;
        }

        boolean hasMouse(int mouse) {
            return mouse >= 0 && mouse < miceCount && mouse < MOST_MICE;
        }

        boolean hasStep(int step) {
            return step >= 0 && step < stepCount && step < MOST_STEPS;
        }

        boolean hasRat(int rat) {
            return rat >= 0 && rat < ratCount && rat < MOST_RATS;
        }

        /* Whether a clause of this word can stand next. */
        boolean takes(int word) {
            switch (word) {
                case PLAIN:
                case DEAF:
                case COWARD:
                case BRAVE: return miceCount < MOST_MICE;
                case STEP: return stepCount < MOST_STEPS;
                case RAT: return ratCount < MOST_RATS;
                default: return word != NO_WORD;
            }
        }

        /* Only a clause that it takes is done. */
        void apply(int word, int first, int second, int third) {
            if (!takes(word)) {
                return;
            }
            switch (word) {
                case STEP: noises[stepCount++] = first; break;
                case RAT: addRat(first, second, third); break;
                case GAIN: gain = first; break;
                case HOUSE: empty(); break;
                case QUIET: stepCount = 0; break;
                default: addMouse(word, first, second, third); break;
            }
        }

        private void addMouse(int kind, int speed, int fear, int ticketsOfHis) {
            if (miceCount >= MOST_MICE) {
                return;
            }
            kinds[miceCount] = kind;
            speeds[miceCount] = speed;
            fears[miceCount] = fear;
            tickets[miceCount] = ticketsOfHis;
            miceCount++;
        }

        private void addRat(int price, int skill, int word) {
            if (ratCount >= MOST_RATS) {
                return;
            }
            prices[ratCount] = price;
            skills[ratCount] = skill;
            words[ratCount] = word;
            ratCount++;
        }

        private void empty() {
            miceCount = 0;
            stepCount = 0;
            ratCount = 0;
            gain = FIRST_GAIN;
        }

        int fearOf(int mouse) {
            return hasMouse(mouse) ? fears[mouse] : 0;
        }

        int worthOf(int rat) {
            return hasRat(rat) ? gain * skills[rat] * words[rat] - 100 * prices[rat] : 0;
        }

        int dangerAt(int step, int mouse) {
            if (!hasStep(step) || !hasMouse(mouse)) {
                return 0;
            }
            return dangerOf(noises[step], kinds[mouse], speeds[mouse]);
        }

        /* Above 10 to the power of the number of steps. */
        long aloneAbove(int mouse) {
            long all = 1;
            long comes = 1;
            for (int step = 0; step < stepCount; step++) {
                all *= 10;
                comes *= MOST_DANGER - dangerAt(step, mouse);
            }
            return all - comes;
        }

        /* Above 10 to the power of the number of steps. */
        long dreadAbove(int mouse) {
            return fearOf(mouse) * aloneAbove(mouse);
        }
    }

    /** THE TEXT, and how it is read to its first fault. */
    private static final class Text {
        final int[] letters = new int[MOST_LETTERS];
        final int[] numbers = new int[MOST_NUMBERS];
        int length;
        int clauses;
        /* The token that is looked at; at the end both are the length. */
        private int start;
        private int end;

        boolean append(int letter) {
            if (length < 0 || length >= MOST_LETTERS) {
                return false;
            }
            letters[length++] = letter;
            return true;
        }

        /* The place of the fault, or NONE; the clauses are done on the draft. */
        int readInto(House draft) {
            end = 0;
            nextToken();
            for (int done = 1; done <= MOST_CLAUSES; done++) {
                if (!readClause(draft)) {
                    return start;
                }
                if (start >= length) {
                    clauses = done;
                    return NONE;
                }
                if (letterAt(start) != ';' || done == MOST_CLAUSES) {
                    return start;
                }
                nextToken();
            }
            return start;
        }

        private boolean readClause(House draft) {
            int word = wordHere();
            if (!draft.takes(word)) {
                return false;
            }
            nextToken();
            Arrays.fill(numbers, 0);
            for (int i = 0; i < numbersBehind(word) && i < MOST_NUMBERS; i++) {
                int number = numberHere();
                if (number < 0 || number > mostOf(word, i)) {
                    return false;
                }
                numbers[i] = number;
                nextToken();
            }
            draft.apply(word, numbers[0], numbers[1], numbers[2]);
            return true;
        }

        private void nextToken() {
            start = endOfBlanks(end);
            int letter = letterAt(start);
            if (isSmall(letter)) {
                end = endOfWord(start);
            } else if (isDigit(letter)) {
                end = endOfNumber(start);
            } else {
                end = Math.min(length, start + 1);
            }
        }

        private int endOfBlanks(int from) {
            int place = from;
            while (place < length && letterAt(place) == BLANK) {
                place++;
            }
            return place;
        }

        private int endOfWord(int from) {
            int place = from;
            while (place < length && isSmall(letterAt(place))) {
                place++;
            }
            return place;
        }

        private int endOfNumber(int from) {
            int place = from;
            while (place < length && isDigit(letterAt(place))) {
                place++;
            }
            return place;
        }

        private int letterAt(int place) {
            return place >= 0 && place < length && place < MOST_LETTERS ? letters[place] : NONE;
        }

        private static boolean isSmall(int letter) {
            return letter >= 'a' && letter <= 'z';
        }

        private static boolean isDigit(int letter) {
            return letter >= '0' && letter <= '9';
        }

        private int wordHere() {
            switch (letterAt(start)) {
                case 'p': return isHere("plain") ? PLAIN : NO_WORD;
                case 'd': return isHere("deaf") ? DEAF : NO_WORD;
                case 'c': return isHere("coward") ? COWARD : NO_WORD;
                case 'b': return isHere("brave") ? BRAVE : NO_WORD;
                case 's': return isHere("step") ? STEP : NO_WORD;
                case 'r': return isHere("rat") ? RAT : NO_WORD;
                case 'g': return isHere("gain") ? GAIN : NO_WORD;
                case 'h': return isHere("house") ? HOUSE : NO_WORD;
                case 'q': return isHere("quiet") ? QUIET : NO_WORD;
                default: return NO_WORD;
            }
        }

        private boolean isHere(String word) {
            if (end - start != word.length()) {
                return false;
            }
            for (int i = 0; i < word.length(); i++) {
                if (letterAt(start + i) != word.charAt(i)) {
                    return false;
                }
            }
            return true;
        }

        /* NONE: the token is no number, or one of more than two digits. */
        private int numberHere() {
            if (!isDigit(letterAt(start)) || end - start > 2) {
                return NONE;
            }
            int number = 0;
            for (int i = start; i < end; i++) {
                number = 10 * number + letterAt(i) - '0';
            }
            return number;
        }

        private static int numbersBehind(int word) {
            switch (word) {
                case STEP:
                case GAIN: return 1;
                case HOUSE:
                case QUIET: return 0;
                default: return 3;
            }
        }

        private static int mostOf(int word, int place) {
            switch (word) {
                case STEP: return 15;
                case GAIN: return MOST_MONEY;
                case RAT: return place == 0 ? MOST_MONEY : 10;
                default: return place == 1 ? MOST_MONEY : 9;
            }
        }
    }

    /** What nights and calls change: it can be undone, and kept. */
    private static final class Team {
        private final int[] doers;
        int nights;
        int living;
        boolean belled;

        Team() {
            doers = new int[MOST_STEPS];
            Arrays.fill(doers, NONE);
        }

        void begin(int mice) {
            dismiss();
            nights = 0;
            living = (1 << mice) - 1;
            belled = false;
        }

        boolean lives(int mouse) {
            return mouse >= 0 && mouse < MOST_MICE && (living >> mouse & 1) == 1;
        }

        int doerOf(int step) {
            return step >= 0 && step < MOST_STEPS ? doers[step] : NONE;
        }

        void setDoer(int step, int mouse) {
            if (step >= 0 && step < MOST_STEPS) {
                doers[step] = mouse;
            }
        }

        void dismiss() {
            Arrays.fill(doers, NONE);
        }

        void lose(int mouse) {
            if (!lives(mouse)) {
                return;
            }
            living &= ~(1 << mouse);
            for (int s = 0; s < MOST_STEPS; s++) {
                if (doers[s] == mouse) {
                    doers[s] = NONE;
                }
            }
        }

        int filledSteps() {
            int filled = 0;
            for (int s = 0; s < MOST_STEPS; s++) {
                filled += doers[s] == NONE ? 0 : 1;
            }
            return filled;
        }

        int stepsOf(int mouse) {
            int bits = 0;
            for (int s = 0; s < MOST_STEPS; s++) {
                bits |= doers[s] == mouse ? 1 << s : 0;
            }
            return bits;
        }

        boolean isWhole(int steps) {
            for (int s = 0; s < steps; s++) {
                if (!lives(doerOf(s))) {
                    return false;
                }
            }
            return true;
        }
    }

    /** The last teams, in a ring: the oldest gives way to the newest. */
    private static final class Undo {
        private final Team[] ring;
        private int next;
        int depth;

        Undo() {
            ring = new Team[MOST_UNDONE];
            for (int i = 0; i < MOST_UNDONE; i++) {
                ring[i] = new Team();
            }
        }

        void remember(Team team) {
            copyTeam(team, ring[next]);
            next = (next + 1) % MOST_UNDONE;
            depth = Math.min(MOST_UNDONE, depth + 1);
        }

        boolean restore(Team team) {
            if (depth <= 0) {
                return false;
            }
            next = (next + MOST_UNDONE - 1) % MOST_UNDONE;
            depth--;
            copyTeam(ring[next], team);
            return true;
        }
    }

    /**
     * What was seen, and the rows by which it could be. What is seen binds
     * each step for itself, so the rows are all choices of one possible mouse
     * for each step.
     */
    private static final class Sightings {
        private final int[] places = new int[MOST_SEEN];
        private final int[] victims = new int[MOST_SEEN];
        int size;

        boolean add(int step, int mouse) {
            if (size < 0 || size >= MOST_SEEN) {
                return false;
            }
            places[size] = step;
            victims[size] = mouse;
            size++;
            return true;
        }

        int possibleAt(House told, int step) {
            int bits = 0;
            for (int m = 0; m < told.miceCount; m++) {
                bits |= isPossible(step, m, told.dangerAt(step, m)) ? 1 << m : 0;
            }
            return bits;
        }

        private boolean isPossible(int step, int mouse, int risk) {
            for (int i = 0; i < size && i < MOST_SEEN; i++) {
                if (places[i] == step && (victims[i] != mouse || risk == 0)) {
                    return false;
                }
                if (places[i] > step && risk >= MOST_DANGER) {
                    return false;
                }
            }
            return true;
        }

        int rowCount(House told) {
            int rows = 1;
            for (int s = 0; s < told.stepCount; s++) {
                rows *= Integer.bitCount(possibleAt(told, s));
            }
            return rows;
        }

        /* A mouse is in all rows only where a step leaves no other choice. */
        int inAllRows(House told) {
            if (rowCount(told) == 0) {
                return 0;
            }
            int bits = 0;
            for (int s = 0; s < told.stepCount; s++) {
                int possible = possibleAt(told, s);
                bits |= Integer.bitCount(possible) == 1 ? possible : 0;
            }
            return bits;
        }
    }

    /** The best team, looked for among all, the first ones first. */
    private static final class Search {
        private final int[] row = new int[MOST_STEPS];
        final int[] bestRow = new int[MOST_STEPS];
        /* Above 10 to the power of the number of steps; NONE: no team. */
        long bestAbove;
        private boolean mayRepeat;

        void run(House told, int living) {
            Arrays.fill(bestRow, NONE);
            bestAbove = NONE;
            mayRepeat = told.stepCount > Integer.bitCount(living);
            tryFrom(this, told, 0, 1, living);
        }

        /* The steps ahead of this one have their doers in the row; who is free may do it. */
        private static void tryFrom(Search at, House told, int step, long above, int free) {
            if (!told.hasStep(step)) {
                at.takeIfBetter(above);
                return;
            }
            /* An equal one that comes later is not taken, so it need not be sought. */
            if (above * tenTo(told.stepCount - step) <= at.bestAbove) {
                return;
            }
            for (int m = 0; m < told.miceCount; m++) {
                if ((free >> m & 1) == 1) {
                    at.row[step] = m;
                    int left = at.mayRepeat ? free : free & ~(1 << m);
                    tryFrom(at, told, step + 1, above * (MOST_DANGER - told.dangerAt(step, m)), left);
                }
            }
        }

        private void takeIfBetter(long above) {
            if (above > bestAbove) {
                bestAbove = above;
                System.arraycopy(row, 0, bestRow, 0, MOST_STEPS);
            }
        }
    }

    /**
     * Which sets of mice who offer themselves rest by a fund. In a set of
     * more than one, and outside of one that is not empty, the gain comes
     * either way, and only fund and dread are weighed; else the gain hangs
     * on the one mouse, and is weighed too.
     */
    private static final class Offers {
        private int living;
        /* Who has no more dread than the fund pays, no less. */
        private int glad;
        private int loath;
        /* Whose dread is not above fund and gain together, is below them. */
        private int gladAlone;
        private int tempted;

        void weigh(House told, int livingMice, int fund) {
            living = livingMice;
            glad = 0;
            loath = 0;
            gladAlone = 0;
            tempted = 0;
            long unit = tenTo(told.stepCount);
            long paid = fund * unit;
            long all = (fund + told.gain) * unit;
            for (int m = 0; m < told.miceCount; m++) {
                long feared = told.dreadAbove(m);
                glad |= feared <= paid ? 1 << m : 0;
                loath |= feared >= paid ? 1 << m : 0;
                gladAlone |= feared <= all ? 1 << m : 0;
                tempted |= feared < all ? 1 << m : 0;
            }
        }

        private boolean isAtRest(int set) {
            if ((set & ~living) != 0) {
                return false;
            }
            if (set == 0) {
                return (living & tempted) == 0;
            }
            int others = living & ~set;
            int stay = Integer.bitCount(set) == 1 ? gladAlone : glad;
            return (others & ~loath) == 0 && (set & ~stay) == 0;
        }

        int howManyRest() {
            int sets = 0;
            for (int set = 0; set < 1 << MOST_MICE; set++) {
                sets += isAtRest(set) ? 1 : 0;
            }
            return sets;
        }

        int leastAtRest() {
            for (int set = 0; set < 1 << MOST_MICE; set++) {
                if (isAtRest(set)) {
                    return set;
                }
            }
            return NONE;
        }
    }
}
