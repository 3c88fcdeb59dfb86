import java.io.IOException;
import java.lang.reflect.Method;
import java.lang.reflect.Modifier;
import java.nio.file.Files;
import java.nio.file.Path;
import java.util.Arrays;
import java.util.Collections;

/** README.md says how to use the class: its example answers what it tells, and each call stands there. */
public final class ReadmeTest {
    public static void main(String[] args) throws IOException {
        String page = Files.readString(Path.of("README.md"));
        theExample(page);
        everyCall(page);
        everyTest(page);
        Check.end();
    }

    private static void names(String page, String words) {
        Check.due("README.md lacks: " + words, 1, page.contains(words) ? 1 : 0);
    }

    private static void answers(String page, String call, long told, long got) {
        String line = Arrays.stream(page.split("\n")).filter(row -> row.contains(call + ";")).findFirst().orElse("");
        Check.due("README.md tells it of " + call, 1, line.contains("// " + told) ? 1 : 0);
        Check.due(call, told, got);
    }

    private static void theExample(String page) {
        String text = "plain 5 20 1; brave 4 10 0; step 7; step 4; gain 30";
        names(page, "String text = \"" + text + "\";");
        BellTheCat cat = new BellTheCat();
        Check.write(cat, text);
        answers(page, "cat.fault()", -1, cat.fault());
        answers(page, "cat.house()", 5, cat.house());
        answers(page, "cat.put(0, 1)", 1, cat.put(0, 1));
        answers(page, "cat.put(1, 0)", 2, cat.put(1, 0));
        answers(page, "cat.through(0)", 4, cat.through(0));
        answers(page, "cat.through(1)", 5, cat.through(1));
        answers(page, "cat.night(1234)", 1, cat.night(1234));
        answers(page, "cat.undo()", 2, cat.undo());
    }

    private static void everyCall(String page) {
        for (Method method : BellTheCat.class.getDeclaredMethods()) {
            if (Modifier.isPublic(method.getModifiers())) {
                String numbers = String.join(", ", Collections.nCopies(method.getParameterCount(), "\\w+"));
                String call = "`" + method.getName() + "\\(" + numbers + "\\)`";
                Check.due("README.md lacks " + call, 1, page.matches("(?s).*" + call + ".*") ? 1 : 0);
            }
        }
    }

    private static void everyTest(String page) throws IOException {
        try (var files = Files.list(Path.of("src/test/java"))) {
            files.map(file -> file.getFileName().toString()).filter(name -> name.endsWith("Test.java"))
                .forEach(name -> names(page, "`" + name.replace(".java", "") + "`"));
        }
    }
}
