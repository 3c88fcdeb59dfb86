import java.lang.reflect.Method;
import java.util.ArrayList;
import java.util.Arrays;
import java.util.Comparator;
import java.util.List;
import java.util.Random;

/** Runs of calls, the same each time, held against the model call by call: all promises. */
public final class ModelTest {
    private static final int RUNS = 240;
    private static final int CALLS = 512;
    private static final List<Method> METHODS = methods();

    public static void main(String[] args) throws ReflectiveOperationException {
        for (int run = 0; run < RUNS; run++) {
            new ModelTest(run).play();
        }
        Check.end();
    }

    private static List<Method> methods() {
        List<Method> methods = new ArrayList<>(Arrays.asList(BellTheCat.class.getDeclaredMethods()));
        methods.removeIf(method -> !java.lang.reflect.Modifier.isPublic(method.getModifiers()));
        methods.sort(Comparator.comparing(Method::getName));
        return methods;
    }

    private final int run;
    private final Random random;
    private final BellTheCat cat = new BellTheCat();
    private final Model model = new Model();
    private int calls = 0;

    private ModelTest(int run) {
        this.run = run;
        this.random = new Random(run);
    }

    private void play() throws ReflectiveOperationException {
        while (calls < CALLS) {
            if (random.nextInt(calls < 20 ? 4 : 60) == 0) {
                tellText();
            } else if (random.nextInt(5) == 0) {
                putAll();
            } else {
                callAny();
            }
        }
    }

    private void both(String name, int... arguments) throws ReflectiveOperationException {
        if (calls >= CALLS) {
            return;
        }
        calls++;
        for (Method method : METHODS) {
            if (method.getName().equals(name)) {
                Object[] boxed = Arrays.stream(arguments).boxed().toArray();
                long got = ((Number) method.invoke(cat, boxed)).longValue();
                Check.due("run " + run + ", call " + calls + ": " + name + Arrays.toString(arguments),
                    model.call(name, arguments), got);
            }
        }
    }

    private void callAny() throws ReflectiveOperationException {
        Method method = METHODS.get(random.nextInt(METHODS.size()));
        String name = method.getName();
        /* Most runs would lose what they were told, if these came as often as others. */
        if (name.equals("erase") && random.nextInt(4) != 0 || name.equals("forget") && random.nextInt(4) != 0) {
            return;
        }
        int[] arguments = new int[method.getParameterCount()];
        for (int i = 0; i < arguments.length; i++) {
            arguments[i] = argument(name, i);
        }
        both(name, arguments);
    }

    private int argument(String name, int place) {
        if (random.nextInt(60) == 0) {
            int[] strange = {Integer.MIN_VALUE, Integer.MAX_VALUE, -1, 6, 7, 31, 32, 33, 64, 256, 1 << 16};
            return strange[random.nextInt(strange.length)];
        }
        switch (name) {
            case "write": return random.nextInt(3) == 0 ? random.nextInt(258) - 1 : ' ';
            case "night": return random.nextInt(10002) - 1;
            case "rests": return place == 0 ? random.nextInt(102) - 1 : random.nextInt(2);
            case "count": return random.nextInt(13) - 1;
            case "callOff": return random.nextInt(new int[] {8, 12, 101, 101, 2}[place]);
            case "shoe": return random.nextInt(new int[] {6, 5, 10, 12, 2}[place]);
            default: return random.nextInt(8) == 0 ? random.nextInt(8) - 1 : random.nextInt(3);
        }
    }

    private void putAll() throws ReflectiveOperationException {
        /* The model is asked how many there are: calls of the object are counted. */
        long steps = model.call("count", new int[] {1});
        int mice = (int) model.call("count", new int[] {0});
        for (int s = 0; s < steps; s++) {
            if (random.nextInt(12) != 0) {
                both("put", s, random.nextInt(Math.max(1, mice)));
            }
        }
        both("through", random.nextInt(2));
        both("loss", random.nextInt(2));
        both("fails", random.nextInt(5), random.nextInt(2));
        both("night", random.nextInt(10000));
    }

    private void tellText() throws ReflectiveOperationException {
        if (random.nextInt(4) != 0) {
            both("erase");
        }
        StringBuilder text = new StringBuilder();
        int clauses = 1 + random.nextInt(random.nextInt(6) == 0 ? 16 : 8);
        for (int i = 0; i < clauses; i++) {
            text.append(i == 0 ? "" : ";").append(clause());
        }
        if (random.nextInt(4) == 0) {
            String odd = "; a0z9\t/:`{Q" + (char) 233;
            text.setCharAt(random.nextInt(text.length()), odd.charAt(random.nextInt(odd.length())));
        }
        for (int i = 0; i < text.length(); i++) {
            both("write", text.charAt(i));
        }
        both("fault");
        both("house");
    }

    private String clause() {
        String[] words = {"plain", "deaf", "coward", "brave", "step", "rat", "gain", "house", "quiet"};
        /* The first words more often, that houses fill. */
        String word = words[random.nextInt(3) == 0 ? random.nextInt(9) : random.nextInt(6)];
        StringBuilder clause = new StringBuilder(word);
        int[] most = switch (word) {
            case "step" -> new int[] {12};
            case "gain" -> new int[] {99};
            case "rat" -> new int[] {30, 10, 10};
            case "house", "quiet" -> new int[0];
            default -> new int[] {9, random.nextInt(3) == 0 ? 99 : 20, 9};
        };
        for (int bound : most) {
            int slip = random.nextInt(80) == 0 ? 4 : 0;
            clause.append(random.nextInt(4) == 0 && clause.length() == word.length() ? "" : " ");
            clause.append(random.nextInt(20) == 0 ? "0" : "").append(random.nextInt(bound + 1 + slip));
        }
        return clause.toString();
    }
}
