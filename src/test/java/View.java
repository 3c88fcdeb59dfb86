import java.util.ArrayList;
import java.util.List;

/** All that can be asked of an object, so that two objects can be held against each other. */
final class View {
    private View() {
    }

    /** What can be asked without a change: some 90 calls at most. */
    static List<Long> of(BellTheCat cat) {
        List<Long> seen = ofNight(cat);
        for (int what = 0; what <= 10; what++) {
            seen.add((long) cat.count(what));
        }
        int mice = cat.count(0);
        int steps = cat.count(1);
        int rats = cat.count(2);
        for (int m = 0; m < mice; m++) {
            for (int what = 0; what <= 5; what++) {
                seen.add((long) cat.mouse(m, what));
            }
        }
        for (int s = 0; s < steps; s++) {
            seen.add((long) cat.step(s, 0));
            seen.add((long) cat.teamOf(s));
        }
        for (int r = 0; r < rats; r++) {
            for (int what = 0; what <= 2; what++) {
                seen.add((long) cat.rat(r, what));
            }
        }
        seen.add((long) cat.teams(0));
        seen.add((long) cat.teams(1));
        seen.add((long) cat.fault());
        return seen;
    }

    /** What undo() and back() change. */
    private static List<Long> ofNight(BellTheCat cat) {
        List<Long> seen = new ArrayList<>();
        for (int s = 0; s < 5; s++) {
            seen.add((long) cat.step(s, 1));
        }
        for (int what = 4; what <= 7; what++) {
            seen.add((long) cat.count(what));
        }
        return seen;
    }

    /** Also what only calls show that change it: what can be undone, is kept, is written. */
    static List<Long> toTheEnd(BellTheCat cat) {
        List<Long> seen = of(cat);
        for (int i = 0; i <= 8; i++) {
            seen.add((long) cat.undo());
            seen.addAll(ofNight(cat));
        }
        for (int k = 0; k < 2; k++) {
            seen.add((long) cat.back(k));
            seen.addAll(ofNight(cat));
        }
        seen.add((long) cat.house());
        seen.addAll(of(cat));
        return seen;
    }
}
