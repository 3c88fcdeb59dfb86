import java.io.IOException;
import java.lang.reflect.Array;
import java.lang.reflect.Constructor;
import java.lang.reflect.Executable;
import java.lang.reflect.Field;
import java.lang.reflect.Method;
import java.lang.reflect.Modifier;
import java.nio.file.Files;
import java.nio.file.Path;
import java.util.ArrayList;
import java.util.Arrays;
import java.util.HashSet;
import java.util.IdentityHashMap;
import java.util.List;
import java.util.Map;
import java.util.Set;
import java.util.regex.Matcher;
import java.util.regex.Pattern;

/** Those rules of ../shared/LANGUAGE.md that the source, or the class from outside, can show; by their numbers. */
public final class RulesTest {
    private static final Path SOURCE = Path.of("src/main/java/BellTheCat.java");
    private static final Set<String> LIBRARY = Set.of("Arrays.fill", "Math.max", "Math.min", "Integer.bitCount",
        "System.arraycopy");
    private static final Set<Class<?>> CONSTANTS = Set.of(int.class, long.class, boolean.class, char.class,
        String.class);

    public static void main(String[] args) throws IOException, ReflectiveOperationException {
        String source = Files.readString(SOURCE);
        String bare = withoutWords(source);
        signsOfTheSource(source);
        forbiddenWords(bare);
        libraryCalls(bare);
        classes();
        for (Class<?> owner : allClasses()) {
            members(owner);
            staticFields(owner);
        }
        lengthsOfMethods(bare);
        madeInConstructorsAlone(bare);
        roomOfAnObject();
        Check.end();
    }

    /** The source without its comments and texts, line by line as it was. */
    private static String withoutWords(String source) {
        Matcher matcher = Pattern.compile("(?s)/\\*.*?\\*/|//[^\n]*|\"[^\"\n]*\"").matcher(source);
        return matcher.replaceAll(found -> found.group().replaceAll("[^\n]", " "));
    }

    private static void due(String what, String want, String got) {
        Check.due(what + " is " + got + ", due is " + want, 1, want.equals(got) ? 1 : 0);
    }

    private static void atMost(String what, int most, int got) {
        Check.due(what + " is " + got + ", above " + most, 0, got > most ? 1 : 0);
    }

    private static List<Class<?>> allClasses() {
        List<Class<?>> all = new ArrayList<>(List.of(BellTheCat.class));
        all.addAll(Arrays.asList(BellTheCat.class.getDeclaredClasses()));
        return all;
    }

    /** 4: "constants, whose signs are 1 to 127" */
    private static void signsOfTheSource(String source) {
        source.chars().forEach(sign -> Check.due("sign " + sign, 1, sign == '\n' || sign >= 32 && sign < 127 ? 1 : 0));
    }

    /** 2, 4, 6, 13, and no package line. */
    private static void forbiddenWords(String bare) {
        Matcher matcher = Pattern.compile("\\b(throw|throws|try|catch|finally|synchronized|assert|package|native"
            + "|volatile|transient|strictfp|var|\\w+Exact|double|float|equals|hashCode|toString|Random|Thread|Object"
            + "|Runtime|getClass|forName|currentTimeMillis|nanoTime|getenv|out|err|in)\\b|->|::|@").matcher(bare);
        while (matcher.find()) {
            due("a word of the source", "none such", matcher.group());
        }
        Matcher imports = Pattern.compile("import ([\\w.*]+);").matcher(bare);
        while (imports.find()) {
            due("import", "java.util.Arrays", imports.group(1));
        }
    }

    /** 4: "The library: only what stands here." */
    private static void libraryCalls(String bare) {
        Matcher matcher = Pattern.compile("\\b([A-Z]\\w*[a-z]\\w*)\\.(\\w+)\\(").matcher(bare);
        while (matcher.find()) {
            String call = matcher.group(1) + "." + matcher.group(2);
            Check.due(call + " is called", 1, LIBRARY.contains(call) ? 1 : 0);
        }
    }

    /** 1, 2, 11: "static nested classes", "the file has at most some twelve classes" */
    private static void classes() {
        atMost("the number of classes", 12, allClasses().size());
        for (Class<?> inside : BellTheCat.class.getDeclaredClasses()) {
            int modifiers = inside.getModifiers();
            Check.due(inside + " is static", 1, Modifier.isStatic(modifiers) ? 1 : 0);
            Check.due(inside + " is public or protected", 0,
                Modifier.isPublic(modifiers) || Modifier.isProtected(modifiers) ? 1 : 0);
            Check.due("classes inside " + inside, 0, inside.getDeclaredClasses().length);
        }
    }

    /** 1, 11: "No private method bears the name of a public one", "at most seven parameters", "some twenty fields" */
    private static void members(Class<?> owner) {
        Set<String> face = new HashSet<>();
        for (Method method : BellTheCat.class.getDeclaredMethods()) {
            if (Modifier.isPublic(method.getModifiers())) {
                face.add(method.getName());
            }
        }
        for (Method method : owner.getDeclaredMethods()) {
            boolean isFace = owner == BellTheCat.class && Modifier.isPublic(method.getModifiers());
            Check.due(method + " bears a public name", 0, !isFace && face.contains(method.getName()) ? 1 : 0);
            atMost("parameters of " + method, 7, method.getParameterCount());
        }
        for (Constructor<?> constructor : owner.getDeclaredConstructors()) {
            atMost("parameters of " + constructor, 7, ((Executable) constructor).getParameterCount());
        }
        int fields = 0;
        for (Field field : owner.getDeclaredFields()) {
            fields += Modifier.isStatic(field.getModifiers()) ? 0 : 1;
        }
        atMost("fields of " + owner, 20, fields);
    }

    /** 5: "Static fields are final: constants" */
    private static void staticFields(Class<?> owner) {
        for (Field field : owner.getDeclaredFields()) {
            if (Modifier.isStatic(field.getModifiers())) {
                Check.due(field + " is final", 1, Modifier.isFinal(field.getModifiers()) ? 1 : 0);
                Check.due(field + " is a constant", 1, CONSTANTS.contains(field.getType()) ? 1 : 0);
            }
        }
    }

    /** Where each method and constructor begins and ends: the lines, by the braces at their own depth. */
    private static List<int[]> bodies(String[] lines) {
        Pattern head = Pattern.compile("^ {4,8}(?! )(?!return |if |for |while |switch |else ).*\\w+\\(.*\\).* \\{$");
        List<int[]> bodies = new ArrayList<>();
        for (int i = 0; i < lines.length; i++) {
            if (head.matcher(lines[i]).matches() && !lines[i].contains("=")) {
                String indent = lines[i].replaceAll("\\S.*", "");
                int end = i;
                while (!lines[end].equals(indent + "}")) {
                    end++;
                }
                bodies.add(new int[] {i, end});
                i = end;
            }
        }
        return bodies;
    }

    /** 11: "Methods stay short (some sixty lines)" */
    private static void lengthsOfMethods(String bare) {
        String[] lines = bare.split("\n");
        int all = 0;
        for (Class<?> owner : allClasses()) {
            all += owner.getDeclaredMethods().length;
        }
        List<int[]> bodies = bodies(lines);
        Check.due("all methods are found", 1, bodies.size() >= all ? 1 : 0);
        for (int[] body : bodies) {
            atMost("lines of " + lines[body[0]].trim(), 60, body[1] - body[0] + 1);
        }
    }

    /** 12, and the one room of all calls: what is made is made with the object; calls make nothing. */
    private static void madeInConstructorsAlone(String bare) {
        String[] lines = bare.split("\n");
        for (int[] body : bodies(lines)) {
            boolean isConstructor = lines[body[0]].matches(" *(public |private )?[A-Z]\\w*\\(.*");
            for (int i = body[0]; i <= body[1] && !isConstructor; i++) {
                Check.due("made in a call: " + lines[i].trim(), 0, lines[i].matches(".*\\b(new|clone)\\b.*") ? 1 : 0);
            }
        }
    }

    /** An object, its parts and rows, with how many fields or elements each has. */
    private static void measure(Object part, Map<Object, Integer> found) throws ReflectiveOperationException {
        if (part == null || found.containsKey(part)) {
            return;
        }
        if (part.getClass().isArray()) {
            int length = Array.getLength(part);
            found.put(part, length);
            for (int i = 0; i < length && part instanceof Object[]; i++) {
                measure(Array.get(part, i), found);
            }
            return;
        }
        int fields = 0;
        found.put(part, fields);
        for (Field field : part.getClass().getDeclaredFields()) {
            if (!Modifier.isStatic(field.getModifiers())) {
                fields++;
                field.setAccessible(true);
                if (!field.getType().isPrimitive()) {
                    measure(field.get(part), found);
                }
            }
        }
        found.put(part, fields);
    }

    /** Some 600,000 objects and 7.3 million fields and elements are there for all: 6,000 houses find room. */
    private static void roomOfAnObject() throws ReflectiveOperationException {
        BellTheCat cat = new BellTheCat();
        Map<Object, Integer> atFirst = new IdentityHashMap<>();
        measure(cat, atFirst);
        atMost("objects and arrays", 100, atFirst.size());
        atMost("fields and elements", 1200, atFirst.values().stream().mapToInt(many -> many).sum());
        for (BellTheCat used : new BellTheCat[] {States.full(), States.belled(), States.extinct(), States.faulty()}) {
            Map<Object, Integer> later = new IdentityHashMap<>();
            measure(used, later);
            Check.due("objects and arrays of one that was used", atFirst.size(), later.size());
        }
    }
}
