import java.util.ArrayDeque;
import java.util.ArrayList;
import java.util.Arrays;
import java.util.List;
import java.util.regex.Matcher;
import java.util.regex.Pattern;

/**
 * The document once more, as literally as it can be said and without care
 * for speed: what BellTheCat answers is held against it by ModelTest.
 */
final class Model {
    private static final int NONE = -1, UNKNOWN = -2, OUTSIDE = -3, NOT = -4, FULL = -5;
    private static final List<String> KINDS = List.of("plain", "deaf", "coward", "brave");

    /** What a text tells. */
    private static final class Told {
        List<int[]> mice = new ArrayList<>();
        List<Integer> noises = new ArrayList<>();
        List<int[]> rats = new ArrayList<>();
        int gain = 20;

        Told copy() {
            Told copy = new Told();
            copy.mice.addAll(mice);
            copy.noises.addAll(noises);
            copy.rats.addAll(rats);
            copy.gain = gain;
            return copy;
        }
    }

    /** What nights change; never changed itself, but replaced. */
    private record Night(int number, boolean bell, List<Boolean> lives, List<Integer> team) {
    }

    private record Token(int place, String letters) {
    }

    private Told told = new Told();
    private Night now = new Night(0, false, List.of(), List.of());
    private final ArrayDeque<Night> undo = new ArrayDeque<>();
    private final Night[] kept = new Night[2];
    private final List<int[]> seen = new ArrayList<>();
    private final StringBuilder text = new StringBuilder();
    private Told read;
    private int clauses;

    // ---- the text

    private List<Token> tokens() {
        List<Token> tokens = new ArrayList<>();
        Matcher matcher = Pattern.compile("[a-z]+|[0-9]+|[^ ]", Pattern.DOTALL).matcher(text);
        while (matcher.find()) {
            tokens.add(new Token(matcher.start(), matcher.group()));
        }
        tokens.add(new Token(text.length(), ""));
        return tokens;
    }

    private static int[] bounds(String word) {
        if (KINDS.contains(word)) {
            return new int[] {9, 99, 9};
        }
        return switch (word) {
            case "step" -> new int[] {15};
            case "rat" -> new int[] {99, 10, 10};
            case "gain" -> new int[] {99};
            case "house", "quiet" -> new int[0];
            default -> null;
        };
    }

    int fault() {
        read = told.copy();
        clauses = 0;
        List<Token> tokens = tokens();
        int at = 0;
        while (true) {
            String word = tokens.get(at).letters();
            int[] bounds = bounds(word);
            boolean tooMany = KINDS.contains(word) && read.mice.size() == 6
                || word.equals("step") && read.noises.size() == 5
                || word.equals("rat") && read.rats.size() == 4;
            if (bounds == null || tooMany) {
                return tokens.get(at).place();
            }
            at++;
            int[] numbers = new int[bounds.length];
            for (int i = 0; i < bounds.length; i++, at++) {
                String token = tokens.get(at).letters();
                if (!token.matches("[0-9]{1,2}") || Integer.parseInt(token) > bounds[i]) {
                    return tokens.get(at).place();
                }
                numbers[i] = Integer.parseInt(token);
            }
            apply(word, numbers);
            clauses++;
            if (tokens.get(at).letters().isEmpty()) {
                return NONE;
            }
            if (!tokens.get(at).letters().equals(";") || clauses == 14) {
                return tokens.get(at).place();
            }
            at++;
        }
    }

    private void apply(String word, int[] numbers) {
        switch (word) {
            case "house" -> read = new Told();
            case "quiet" -> read.noises.clear();
            case "gain" -> read.gain = numbers[0];
            case "step" -> read.noises.add(numbers[0]);
            case "rat" -> read.rats.add(numbers);
            default -> read.mice.add(new int[] {KINDS.indexOf(word), numbers[0], numbers[1], numbers[2]});
        }
    }

    // ---- helps

    private boolean noMouse(int mouse) {
        return mouse < 0 || mouse >= told.mice.size();
    }

    private boolean noStep(int step) {
        return step < 0 || step >= told.noises.size();
    }

    private static boolean out(int number, int least, int most) {
        return number < least || number > most;
    }

    private static int dangerTo(int[] mouse, int noise) {
        int danger = Math.min(10, Math.max(0, noise - mouse[1]));
        if (mouse[0] == 1 && danger > 0) {
            danger += 2;
        }
        if (mouse[0] == 2 && noise > 5) {
            danger = 10;
        }
        if (mouse[0] == 3) {
            danger -= 1;
        }
        return Math.min(10, Math.max(0, danger));
    }

    private int dangerAt(int step, int mouse) {
        return dangerTo(told.mice.get(mouse), told.noises.get(step));
    }

    private boolean whole() {
        return now.team.stream().allMatch(mouse -> mouse != NONE && now.lives.get(mouse));
    }

    private int filled() {
        return (int) now.team.stream().filter(mouse -> mouse != NONE).count();
    }

    private List<Integer> living() {
        List<Integer> living = new ArrayList<>();
        for (int m = 0; m < told.mice.size(); m++) {
            if (now.lives.get(m)) {
                living.add(m);
            }
        }
        return living;
    }

    private void change(Night next) {
        undo.push(now);
        if (undo.size() > 8) {
            undo.removeLast();
        }
        now = next;
    }

    private static <T> List<T> with(List<T> list, int place, T item) {
        List<T> copy = new ArrayList<>(list);
        copy.set(place, item);
        return copy;
    }

    /** All rows of these mice, in their order. */
    private List<int[]> rows(List<Integer> mice) {
        List<int[]> rows = new ArrayList<>();
        rows.add(new int[0]);
        for (int s = 0; s < told.noises.size(); s++) {
            List<int[]> longer = new ArrayList<>();
            for (int[] row : rows) {
                for (int mouse : mice) {
                    int[] more = Arrays.copyOf(row, row.length + 1);
                    more[row.length] = mouse;
                    longer.add(more);
                }
            }
            rows = longer;
        }
        return rows;
    }

    private Fraction throughOf(int[] row) {
        Fraction odds = Fraction.of(1, 1);
        for (int s = 0; s < row.length; s++) {
            odds = odds.times(Fraction.of(10 - dangerAt(s, row[s]), 10));
        }
        return odds;
    }

    private Fraction failsAt(int step) {
        Fraction odds = Fraction.of(dangerAt(step, now.team.get(step)), 10);
        for (int s = 0; s < step; s++) {
            odds = odds.times(Fraction.of(10 - dangerAt(s, now.team.get(s)), 10));
        }
        return odds;
    }

    private int[] bestRow() {
        List<Integer> living = living();
        boolean repeats = told.noises.size() > living.size();
        int[] best = null;
        for (int[] row : rows(living)) {
            if (!repeats && Arrays.stream(row).distinct().count() != row.length) {
                continue;
            }
            if (best == null || throughOf(row).compareTo(throughOf(best)) > 0) {
                best = row;
            }
        }
        return best;
    }

    private Fraction aloneOf(int mouse) {
        int[] row = new int[told.noises.size()];
        Arrays.fill(row, mouse);
        return Fraction.of(1, 1).plus(throughOf(row).times(Fraction.of(-1, 1)));
    }

    private Fraction dreadOf(int mouse) {
        return aloneOf(mouse).times(Fraction.of(told.mice.get(mouse)[2], 1));
    }

    /** All that a mouse has in the mean when this set offers itself. */
    private Fraction has(int set, int mouse, int fund) {
        int size = Integer.bitCount(set);
        if (size == 0) {
            return Fraction.of(0, 1);
        }
        Fraction gain = Fraction.of(told.gain, 1);
        if ((set >> mouse & 1) == 0) {
            return gain;
        }
        Fraction goes = Fraction.of(fund, 1).plus(dreadOf(mouse).times(Fraction.of(-1, 1)));
        return gain.plus(goes.times(Fraction.of(1, size)));
    }

    private List<Integer> resting(int fund) {
        List<Integer> sets = new ArrayList<>();
        int all = count(5);
        for (int set = 0; set < 64; set++) {
            boolean rests = (set & ~all) == 0;
            for (int m : living()) {
                rests &= has(set ^ 1 << m, m, fund).compareTo(has(set, m, fund)) <= 0;
            }
            if (rests) {
                sets.add(set);
            }
        }
        return sets;
    }

    private List<int[]> possibleTeams() {
        List<Integer> mice = new ArrayList<>();
        for (int m = 0; m < told.mice.size(); m++) {
            mice.add(m);
        }
        List<int[]> teams = new ArrayList<>();
        for (int[] row : rows(mice)) {
            boolean could = true;
            for (int[] sight : seen) {
                could &= row[sight[0]] == sight[1] && dangerAt(sight[0], sight[1]) > 0;
                for (int s = 0; s < sight[0]; s++) {
                    could &= dangerAt(s, row[s]) < 10;
                }
            }
            if (could) {
                teams.add(row);
            }
        }
        return teams;
    }

    // ---- the calls, by their names

    long call(String name, int[] a) {
        return switch (name) {
            case "write" -> write(a[0]);
            case "erase" -> erase();
            case "fault" -> fault();
            case "house" -> house();
            case "mouse" -> mouse(a[0], a[1]);
            case "step" -> step(a[0], a[1]);
            case "rat" -> rat(a[0], a[1]);
            case "as" -> as(a[0], a[1]);
            case "danger" -> noStep(a[0]) || noMouse(a[1]) ? UNKNOWN : dangerAt(a[0], a[1]);
            case "put" -> put(a[0], a[1]);
            case "clear" -> clear();
            case "night" -> night(a[0]);
            case "undo" -> undo();
            case "keep" -> keep(a[0]);
            case "back" -> back(a[0]);
            case "through" -> out(a[0], 0, 1) ? OUTSIDE : !whole() ? NOT
                : throughOf(now.team.stream().mapToInt(m -> m).toArray()).part(a[0]);
            case "fails" -> noStep(a[0]) ? UNKNOWN : out(a[1], 0, 1) ? OUTSIDE : !whole() ? NOT
                : failsAt(a[0]).part(a[1]);
            case "loss" -> loss(a[0]);
            case "best" -> out(a[0], 0, 1) ? OUTSIDE : bestRow() == null ? NOT : throughOf(bestRow()).part(a[0]);
            case "bestOf" -> noStep(a[0]) ? UNKNOWN : bestRow() == null ? NONE : bestRow()[a[0]];
            case "drawn" -> drawn(a[0], a[1]);
            case "alone" -> noMouse(a[0]) ? UNKNOWN : out(a[1], 0, 1) ? OUTSIDE : aloneOf(a[0]).part(a[1]);
            case "dread" -> noMouse(a[0]) ? UNKNOWN : out(a[1], 0, 1) ? OUTSIDE : dreadOf(a[0]).part(a[1]);
            case "hires" -> hires(a[0]);
            case "rests" -> rests(a[0], a[1]);
            case "fund" -> fund();
            case "rats" -> rats(a[0]);
            case "shoe" -> shoe(a[0], a[1], a[2], a[3], a[4]);
            case "callOff" -> callOff(a[0], a[1], a[2], a[3], a[4]);
            case "seen" -> seen(a[0], a[1]);
            case "forget" -> forget();
            case "teams" -> teams(a[0]);
            case "teamOf" -> noStep(a[0]) ? UNKNOWN : possibleTeams().isEmpty() ? NONE : possibleTeams().get(0)[a[0]];
            case "count" -> count(a[0]);
            default -> throw new IllegalArgumentException(name);
        };
    }

    private int write(int letter) {
        if (out(letter, 0, 255)) {
            return OUTSIDE;
        }
        if (text.length() == 160) {
            return FULL;
        }
        text.append((char) letter);
        return text.length();
    }

    private int erase() {
        int had = text.length();
        text.setLength(0);
        return had;
    }

    private int house() {
        if (fault() != NONE) {
            return NOT;
        }
        told = read;
        text.setLength(0);
        List<Boolean> lives = new ArrayList<>();
        told.mice.forEach(mouse -> lives.add(true));
        List<Integer> team = new ArrayList<>();
        told.noises.forEach(noise -> team.add(NONE));
        now = new Night(0, false, lives, team);
        undo.clear();
        seen.clear();
        Arrays.fill(kept, null);
        return clauses;
    }

    private int mouse(int mouse, int what) {
        if (noMouse(mouse)) {
            return UNKNOWN;
        }
        if (out(what, 0, 5)) {
            return OUTSIDE;
        }
        if (what < 4) {
            return told.mice.get(mouse)[what];
        }
        if (what == 4) {
            return now.lives.get(mouse) ? 1 : 0;
        }
        int bits = 0;
        for (int s = 0; s < now.team.size(); s++) {
            if (now.team.get(s) == mouse) {
                bits += 1 << s;
            }
        }
        return bits;
    }

    private int step(int step, int what) {
        if (noStep(step)) {
            return UNKNOWN;
        }
        if (out(what, 0, 1)) {
            return OUTSIDE;
        }
        return what == 0 ? told.noises.get(step) : now.team.get(step);
    }

    private int rat(int rat, int what) {
        if (rat < 0 || rat >= told.rats.size()) {
            return UNKNOWN;
        }
        return out(what, 0, 2) ? OUTSIDE : told.rats.get(rat)[what];
    }

    private int as(int mouse, int kind) {
        if (noMouse(mouse)) {
            return UNKNOWN;
        }
        if (out(kind, 0, 4)) {
            return OUTSIDE;
        }
        /* What each kind is, itself and all that it is under. */
        List<List<Integer>> is = List.of(List.of(0, 1), List.of(0, 1, 2), List.of(0, 3), List.of(0, 1, 4));
        int[] one = told.mice.get(mouse);
        return is.get(one[0]).contains(kind) ? dangerTo(one, 6) : NOT;
    }

    private int put(int step, int mouse) {
        if (noStep(step) || noMouse(mouse)) {
            return UNKNOWN;
        }
        if (!now.lives.get(mouse)) {
            return NOT;
        }
        change(new Night(now.number, now.bell, now.lives, with(now.team, step, mouse)));
        return filled();
    }

    private int clear() {
        int had = filled();
        List<Integer> nobody = new ArrayList<>(now.team);
        nobody.replaceAll(mouse -> NONE);
        change(new Night(now.number, now.bell, now.lives, nobody));
        return had;
    }

    private int night(int z) {
        if (out(z, 0, 9999)) {
            return OUTSIDE;
        }
        if (!whole() || now.bell) {
            return NOT;
        }
        for (int k = 0; k < now.team.size(); k++) {
            long x = 7919L * z + 6151L * k + 1;
            int mouse = now.team.get(k);
            if (x * x % 65521 % 10 < dangerAt(k, mouse)) {
                List<Integer> team = new ArrayList<>(now.team);
                team.replaceAll(other -> other == mouse ? NONE : other);
                change(new Night(now.number + 1, false, with(now.lives, mouse, false), team));
                return mouse;
            }
        }
        change(new Night(now.number + 1, true, now.lives, now.team));
        return NONE;
    }

    private int undo() {
        if (undo.isEmpty()) {
            return NOT;
        }
        now = undo.pop();
        return undo.size();
    }

    private int keep(int k) {
        if (out(k, 0, 1)) {
            return UNKNOWN;
        }
        kept[k] = now;
        return now.number;
    }

    private int back(int k) {
        if (out(k, 0, 1)) {
            return UNKNOWN;
        }
        if (kept[k] == null) {
            return NOT;
        }
        now = kept[k];
        undo.clear();
        return now.number;
    }

    private long loss(int part) {
        if (out(part, 0, 1)) {
            return OUTSIDE;
        }
        if (!whole()) {
            return NOT;
        }
        Fraction mean = Fraction.of(0, 1);
        for (int s = 0; s < now.team.size(); s++) {
            mean = mean.plus(failsAt(s).times(Fraction.of(told.mice.get(now.team.get(s))[2], 1)));
        }
        return mean.part(part);
    }

    private long drawn(int mouse, int part) {
        if (noMouse(mouse)) {
            return UNKNOWN;
        }
        if (out(part, 0, 1)) {
            return OUTSIDE;
        }
        int all = living().stream().mapToInt(m -> told.mice.get(m)[3]).sum();
        if (all == 0) {
            return NOT;
        }
        return Fraction.of(now.lives.get(mouse) ? told.mice.get(mouse)[3] : 0, all).part(part);
    }

    private int hires(int mouse) {
        if (noMouse(mouse)) {
            return UNKNOWN;
        }
        if (!now.lives.get(mouse)) {
            return NOT;
        }
        int least = living().stream().min((a, b) -> dreadOf(a).compareTo(dreadOf(b))).get();
        return dreadOf(least).compareTo(dreadOf(mouse)) < 0 ? least : mouse;
    }

    private int rests(int fund, int what) {
        if (out(fund, 0, 99) || out(what, 0, 1)) {
            return OUTSIDE;
        }
        List<Integer> sets = resting(fund);
        return what == 0 ? sets.size() : sets.isEmpty() ? NONE : sets.get(0);
    }

    private int fund() {
        for (int fund = 0; fund <= 99; fund++) {
            if (resting(fund).stream().anyMatch(set -> set != 0)) {
                return fund;
            }
        }
        return NONE;
    }

    private int rats(int what) {
        if (out(what, 0, 1)) {
            return OUTSIDE;
        }
        int best = NONE;
        int most = 0;
        for (int[] rat : told.rats) {
            int much = told.gain * rat[1] * rat[2] - 100 * rat[0];
            if (much > most) {
                most = much;
                best = told.rats.indexOf(rat);
            }
        }
        return best == NONE ? NONE : what == 0 ? best : most;
    }

    private long shoe(int mouse, int step, int n, int p, int part) {
        if (noMouse(mouse) || noStep(step)) {
            return UNKNOWN;
        }
        if (out(n, 0, 8) || out(p, 0, 10) || out(part, 0, 1)) {
            return OUTSIDE;
        }
        int[] one = told.mice.get(mouse).clone();
        return practised(one, told.noises.get(step), n, p).part(part);
    }

    private Fraction practised(int[] one, int noise, int left, int p) {
        if (left == 0) {
            return Fraction.of(dangerTo(one, noise) == 0 ? 1 : 0, 1);
        }
        int[] faster = one.clone();
        faster[1] = Math.min(9, one[1] + 1);
        return practised(faster, noise, left - 1, p).times(Fraction.of(p, 10))
            .plus(practised(one, noise, left - 1, p).times(Fraction.of(10 - p, 10)));
    }

    private static long callOff(int n, int q, int gain, int loss, int part) {
        if (out(n, 1, 6) || out(q, 0, 10) || out(gain, 0, 99) || out(loss, 0, 99) || out(part, 0, 1)) {
            return OUTSIDE;
        }
        return valueOf(n, q, gain, loss).part(part);
    }

    private static Fraction valueOf(int n, int q, int gain, int loss) {
        Fraction stop = Fraction.of(0, 1);
        if (n == 0) {
            return stop;
        }
        Fraction done = Fraction.of(q * gain, 10);
        Fraction else_ = valueOf(n - 1, q, gain, loss).plus(Fraction.of(-loss, 1)).times(Fraction.of(10 - q, 10));
        Fraction goOn = done.plus(else_);
        return goOn.compareTo(stop) > 0 ? goOn : stop;
    }

    private int seen(int step, int mouse) {
        if (noStep(step) || noMouse(mouse)) {
            return UNKNOWN;
        }
        if (seen.size() == 6) {
            return FULL;
        }
        seen.add(new int[] {step, mouse});
        return seen.size();
    }

    private int forget() {
        int had = seen.size();
        seen.clear();
        return had;
    }

    private int teams(int what) {
        if (out(what, 0, 1)) {
            return OUTSIDE;
        }
        List<int[]> teams = possibleTeams();
        if (what == 0) {
            return teams.size();
        }
        int inAll = 0;
        for (int m = 0; m < told.mice.size() && !teams.isEmpty(); m++) {
            int mouse = m;
            if (teams.stream().allMatch(row -> Arrays.stream(row).anyMatch(other -> other == mouse))) {
                inAll |= 1 << m;
            }
        }
        return inAll;
    }

    private int count(int what) {
        return switch (what) {
            case 0 -> told.mice.size();
            case 1 -> told.noises.size();
            case 2 -> told.rats.size();
            case 3 -> told.gain;
            case 4 -> now.number;
            case 5 -> living().stream().mapToInt(m -> 1 << m).sum();
            case 6 -> now.bell ? 1 : 0;
            case 7 -> filled();
            case 8 -> seen.size();
            case 9 -> undo.size();
            case 10 -> text.length();
            default -> OUTSIDE;
        };
    }
}
