import java.io.IOException;
import java.lang.reflect.Method;
import java.lang.reflect.Modifier;
import java.nio.file.Files;
import java.nio.file.Path;
import java.util.List;
import java.util.regex.Matcher;
import java.util.regex.Pattern;
import java.util.stream.Stream;

/** The README's example calls answer what it says, and it leaves out no call and no test. */
public final class ReadmeTest {
    private static final Pattern BLOCK = Pattern.compile("```java\n(.*?)```", Pattern.DOTALL);
    private static final Pattern EXAMPLE = Pattern.compile("x\\.(\\w+)\\(([^)]*)\\);\\s*// (-?\\d+|[A-Z]+)\\b.*");
    private static final Check CHECK = new Check("ReadmeTest");

    public static void main(String[] args) throws Exception {
        String text = Files.readString(Path.of("README.md"));
        examples(text);
        namesEachCall(text);
        namesEachTest(text);
        CHECK.end();
    }

    private static void examples(String text) throws Exception {
        Matcher block = BLOCK.matcher(text);
        CHECK.holds("there is an example", block.find());
        String[] lines = block.group(1).split("\n");
        CHECK.holds("it begins with a new object", lines[0].equals("BagTrees x = new BagTrees();"));
        BagTrees x = new BagTrees();
        for (int i = 1; i < lines.length; i++) {
            Matcher example = EXAMPLE.matcher(lines[i]);
            if (example.matches()) {
                CHECK.due(lines[i], answer(x, example.group(1), example.group(2)), due(example.group(3)));
            } else {
                CHECK.wrong("neither a call nor its answer: " + lines[i]);
            }
        }
    }

    private static long answer(BagTrees x, String name, String numbers) throws Exception {
        Object[] given = Stream.of(numbers.split(", ")).map(Integer::valueOf).toArray();
        Class<?>[] types = new Class<?>[given.length];
        java.util.Arrays.fill(types, int.class);
        return ((Number) BagTrees.class.getMethod(name, types).invoke(x, given)).longValue();
    }

    private static long due(String told) throws Exception {
        return Character.isLetter(told.charAt(0)) ? BagTrees.class.getField(told).getInt(null) : Long.parseLong(told);
    }

    private static void namesEachCall(String text) {
        for (Method m : BagTrees.class.getDeclaredMethods()) {
            if (Modifier.isPublic(m.getModifiers())) {
                CHECK.holds("an example of " + m.getName(), text.contains("\nx." + m.getName() + "("));
                CHECK.holds("the table has " + m.getName(), text.contains("`" + m.getName() + "("));
            }
        }
    }

    private static void namesEachTest(String text) throws IOException {
        CHECK.holds("how to run the tests", text.contains(".ci/run"));
        try (Stream<Path> files = Files.list(Path.of("src/test/java"))) {
            List<String> tests = files.map(f -> f.getFileName().toString()).filter(f -> f.endsWith("Test.java")).toList();
            for (String test : tests) {
                CHECK.holds("names " + test, text.contains("`" + test.replace(".java", "") + "`"));
            }
        }
    }
}
