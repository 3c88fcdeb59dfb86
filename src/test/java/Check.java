import java.util.List;
import java.util.function.Supplier;
import java.util.function.ToLongFunction;

/** What the tests of the project share: texts told at once, and answers that are due. */
final class Check {
    private static int wrong = 0;
    private static int done = 0;

    private Check() {
    }

    static void due(String call, long want, long got) {
        done++;
        if (got != want) {
            wrong++;
            System.out.println(call + " answered " + got + ", due is " + want);
        }
    }

    /** Odds are told by two calls; both are due. */
    static void parts(String call, long wantAbove, long wantBelow, long above, long below) {
        due(call + " above", wantAbove, above);
        due(call + " below", wantBelow, below);
    }

    static void write(BellTheCat cat, String text) {
        for (int i = 0; i < text.length(); i++) {
            cat.write(text.charAt(i));
        }
    }

    /** A new object that has been told this text. */
    static BellTheCat told(String text) {
        BellTheCat cat = new BellTheCat();
        tell(cat, text);
        return cat;
    }

    static void tell(BellTheCat cat, String text) {
        write(cat, text);
        int clauses = text.split(";").length;
        due("house() of \"" + text + "\"", clauses, cat.house());
    }

    static void faultOf(String text, int place) {
        BellTheCat cat = new BellTheCat();
        write(cat, text);
        due("fault() of \"" + text + "\"", place, cat.fault());
    }

    static void same(String what, List<Long> want, List<Long> got) {
        due(what + ": " + got + " where due is " + want, 1, want.equals(got) ? 1 : 0);
    }

    /** A call answers this, and its object is then as its twin who never had the call. */
    static void changesNothing(String call, Supplier<BellTheCat> made, ToLongFunction<BellTheCat> ask, long want) {
        BellTheCat cat = made.get();
        due(call, want, ask.applyAsLong(cat));
        same(call + " changes", View.toTheEnd(made.get()), View.toTheEnd(cat));
    }

    /** The same of a call whose answer is due elsewhere; it was not refused. */
    static void foretells(String call, Supplier<BellTheCat> made, ToLongFunction<BellTheCat> ask) {
        BellTheCat cat = made.get();
        due(call + " is refused", 0, ask.applyAsLong(cat) < BellTheCat.NONE ? 1 : 0);
        same(call + " changes", View.toTheEnd(made.get()), View.toTheEnd(cat));
    }

    static void end() {
        System.out.println(done + " answers, " + wrong + " not as due");
        if (wrong != 0) {
            System.exit(1);
        }
    }
}
