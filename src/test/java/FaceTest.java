import java.lang.reflect.Constructor;
import java.lang.reflect.Field;
import java.lang.reflect.Method;
import java.lang.reflect.Modifier;
import java.util.Arrays;
import java.util.Set;
import java.util.TreeSet;

/** The public face: its constants, its constructor, its methods with their types; and that no call throws. */
public final class FaceTest {
    private static final String FACE = "as/2 alone/2 back/1 best/1 bestOf/1 callOff/5 clear/0 count/1 danger/2"
        + " dread/2 drawn/2 erase/0 fails/2 fault/0 forget/0 fund/0 hires/1 house/0 keep/1 loss/1 mouse/2 night/1"
        + " put/2 rat/2 rats/1 rests/2 seen/2 shoe/5 step/2 teamOf/1 teams/1 through/1 undo/0 write/1";
    private static final String CONSTANTS = "FULL NONE NOT OUTSIDE UNKNOWN";

    public static void main(String[] args) {
        constants();
        members();
        neverThrows();
        Check.end();
    }

    private static void constants() {
        Check.due("NONE", -1, BellTheCat.NONE);
        Check.due("UNKNOWN", -2, BellTheCat.UNKNOWN);
        Check.due("OUTSIDE", -3, BellTheCat.OUTSIDE);
        Check.due("NOT", -4, BellTheCat.NOT);
        Check.due("FULL", -5, BellTheCat.FULL);
    }

    private static void members() {
        Set<String> methods = new TreeSet<>();
        for (Method method : BellTheCat.class.getDeclaredMethods()) {
            if (!Modifier.isPrivate(method.getModifiers())) {
                methods.add(method.getName() + "/" + method.getParameterCount());
                boolean isLong = method.getName().equals("shoe") || method.getName().equals("callOff");
                due(method + " answers", isLong ? "long" : "int", method.getReturnType().getName());
            }
        }
        due("methods", new TreeSet<>(Arrays.asList(FACE.split(" "))).toString(), methods.toString());
        Set<String> fields = new TreeSet<>();
        for (Field field : BellTheCat.class.getDeclaredFields()) {
            if (!Modifier.isPrivate(field.getModifiers())) {
                fields.add(field.getName());
            }
        }
        due("fields", new TreeSet<>(Arrays.asList(CONSTANTS.split(" "))).toString(), fields.toString());
        Constructor<?>[] constructors = BellTheCat.class.getDeclaredConstructors();
        due("constructors", "[public BellTheCat()]", Arrays.toString(constructors));
        Check.due("final", 1, Modifier.isFinal(BellTheCat.class.getModifiers()) ? 1 : 0);
    }

    /** Numbers from everywhere, to a new object and to a full one. */
    private static void neverThrows() {
        int[] numbers = {Integer.MIN_VALUE, -6, -1, 0, 1, 4, 5, 6, 7, 8, 31, 32, 63, 64, 99, 100, 159, 160,
            1 << 16, Integer.MAX_VALUE};
        BellTheCat full = Check.told("coward9 99 9;plain0 99 9;deaf0 99 9;brave0 99 9;plain9 0 0;plain1 1 1;"
            + "step15;step14;step6;step5;step0;gain99");
        Check.tell(full, "rat99 10 10;rat0 10 10;rat0 0 0;rat1 1 1");
        for (int i = 0; i < 200; i++) {
            full.write(i % 3 == 0 ? ';' : 'a');
            full.seen(i % 5, i % 6);
        }
        for (BellTheCat cat : new BellTheCat[] {new BellTheCat(), full}) {
            for (int a : numbers) {
                for (int b : numbers) {
                    callAll(cat, a, b);
                }
            }
        }
    }

    private static void callAll(BellTheCat cat, int a, int b) {
        long[] answers = {cat.write(a), cat.fault(), cat.house(), cat.mouse(a, b), cat.step(a, b), cat.rat(a, b),
            cat.as(a, b), cat.danger(a, b), cat.put(a, b), cat.night(a), cat.undo(), cat.keep(a), cat.back(a),
            cat.through(a), cat.fails(a, b), cat.loss(a), cat.best(a), cat.bestOf(a), cat.drawn(a, b),
            cat.alone(a, b), cat.dread(a, b), cat.hires(a), cat.rests(a, b), cat.fund(), cat.rats(a),
            cat.shoe(a, b, a, b, a), cat.shoe(0, 0, a, b, 0), cat.callOff(a, b, a, b, a), cat.callOff(1, 1, a, b, 1),
            cat.seen(a, b), cat.teams(a), cat.teamOf(a), cat.count(a)};
        for (int i = 0; i < answers.length; i++) {
            Check.due("call " + i + " with " + a + ", " + b + ", an answer below FULL", 0, answers[i] < -5 ? 1 : 0);
        }
    }

    private static void due(String what, String want, String got) {
        Check.due(what + " is " + got + ", due is " + want, 1, want.equals(got) ? 1 : 0);
    }
}
