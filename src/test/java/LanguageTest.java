import java.io.IOException;
import java.lang.reflect.Array;
import java.lang.reflect.Constructor;
import java.lang.reflect.Field;
import java.lang.reflect.Method;
import java.lang.reflect.Modifier;
import java.nio.file.Files;
import java.nio.file.Path;
import java.util.ArrayDeque;
import java.util.Collections;
import java.util.Deque;
import java.util.IdentityHashMap;
import java.util.Set;
import java.util.TreeSet;
import java.util.regex.Matcher;
import java.util.regex.Pattern;

/** The face of the class, the rules of LANGUAGE.md that a text or a mirror shows, and the room that an object takes. */
public final class LanguageTest {
    private static final Path SOURCE = Path.of("src/main/java/BagTrees.java");
    private static final String[] METHODS = {
        "int begin(int)", "int join(int,int)", "int part(int,int)", "int weigh(int,int)", "int count(int)",
        "int near(int)", "int width(int)", "int order(int,int)", "int seen(int,int)", "int separator(int)",
        "int clique(int)", "long total(int,int)", "int best(int)", "int which(int)", "int fewest(int)"};
    private static final String[] FORBIDDEN = {
        "throw", "try", "catch", "finally", "synchronized", "assert", "import", "package", "protected", "Object",
        "hashCode", "toString", "volatile", "native", "Integer.MAX_VALUE", "->", "::", "Exact", "System.",
        "numberOfTrailingZeros", "highestOneBit"};
    /** 512 objects of this size still fit in one room of 7.3 million. */
    private static final int MOST_CELLS = 14000;
    private static final Check CHECK = new Check("LanguageTest");

    public static void main(String[] args) throws Exception {
        face();
        nestedClasses();
        words();
        methodLengths();
        room();
        CHECK.end();
    }

    private static String told(Method m) {
        StringBuilder text = new StringBuilder(m.getReturnType() + " " + m.getName() + "(");
        for (Class<?> type : m.getParameterTypes()) {
            text.append(text.charAt(text.length() - 1) == '(' ? "" : ",").append(type);
        }
        return text.append(")").toString();
    }

    private static void face() {
        Class<?> c = BagTrees.class;
        CHECK.holds("public and final", Modifier.isPublic(c.getModifiers()) && Modifier.isFinal(c.getModifiers()));
        Set<String> due = new TreeSet<>(java.util.List.of(METHODS));
        Set<String> names = new TreeSet<>();
        for (String method : METHODS) {
            names.add(method.substring(method.indexOf(' ') + 1, method.indexOf('(')));
        }
        Set<String> got = new TreeSet<>();
        for (Method m : c.getDeclaredMethods()) {
            if (Modifier.isPrivate(m.getModifiers())) {
                CHECK.holds("no private method bears a public name: " + m, !names.contains(m.getName()));
            } else {
                CHECK.holds("public: " + m, Modifier.isPublic(m.getModifiers()));
                got.add(told(m));
            }
        }
        CHECK.holds("the methods are those of the face, not " + got, got.equals(due));
        Constructor<?>[] constructors = c.getDeclaredConstructors();
        CHECK.holds("one public constructor", constructors.length == 1
                && Modifier.isPublic(constructors[0].getModifiers()) && constructors[0].getParameterCount() == 0);
        Set<String> constants = new TreeSet<>();
        for (Field f : c.getDeclaredFields()) {
            if (!Modifier.isPrivate(f.getModifiers())) {
                constants.add(f.getName());
                CHECK.holds("a public constant of int: " + f, f.getType() == int.class
                        && Modifier.isPublic(f.getModifiers()) && isConstant(f));
            }
        }
        CHECK.holds("the constants", constants.equals(Set.of("NONE", "BAD", "FULL", "THERE")));
        for (Class<?> inside : c.getDeclaredClasses()) {
            for (Method m : inside.getDeclaredMethods()) {
                CHECK.holds("no method inside bears a public name: " + m, !names.contains(m.getName()));
            }
        }
    }

    private static boolean isConstant(Field f) {
        return Modifier.isStatic(f.getModifiers()) && Modifier.isFinal(f.getModifiers());
    }

    private static void nestedClasses() {
        Class<?>[] inside = BagTrees.class.getDeclaredClasses();
        CHECK.holds("at most twelve classes", inside.length <= 11);
        for (Class<?> c : inside) {
            CHECK.holds("static: " + c, Modifier.isStatic(c.getModifiers()));
            CHECK.holds("no deeper class in " + c, c.getDeclaredClasses().length == 0);
            int fields = 0;
            for (Field f : c.getDeclaredFields()) {
                CHECK.holds("static fields are final: " + f,
                        !Modifier.isStatic(f.getModifiers()) || Modifier.isFinal(f.getModifiers()));
                fields += Modifier.isStatic(f.getModifiers()) ? 0 : 1;
            }
            CHECK.holds("at most twenty fields: " + c, fields <= 20);
            for (Method m : c.getDeclaredMethods()) {
                CHECK.holds("at most seven parameters: " + m, m.getParameterCount() <= 7);
            }
        }
    }

    private static String withoutComments(String text) {
        return Pattern.compile("/\\*.*?\\*/|//[^\n]*", Pattern.DOTALL).matcher(text).replaceAll("");
    }

    private static void words() throws IOException {
        String text = withoutComments(Files.readString(SOURCE));
        for (String word : FORBIDDEN) {
            String pattern = Character.isLetter(word.charAt(0)) ? "\\b" + Pattern.quote(word) : Pattern.quote(word);
            CHECK.holds("does not say " + word, !Pattern.compile(pattern).matcher(text).find());
        }
        Matcher library = Pattern.compile("\\b(Integer|Long|Math|Arrays)\\.(\\w+)").matcher(text);
        while (library.find()) {
            CHECK.holds("in the library of LANGUAGE.md: " + library.group(),
                    Set.of("bitCount", "min", "max", "abs").contains(library.group(2)));
        }
        // an object for the class's own parts alone, and rows in fields alone
        Matcher made = Pattern.compile("^(.*)\\bnew (\\w+)(.)", Pattern.MULTILINE).matcher(text);
        while (made.find()) {
            boolean row = made.group(3).equals("[");
            CHECK.holds("made once for each object: " + made.group().trim(),
                    row ? made.group(1).contains("private") || made.group(1).contains("final")
                        : Set.of("Graph", "Orders", "Heights", "Finder", "Counter").contains(made.group(2)));
        }
    }

    private static void methodLengths() throws IOException {
        int start = -1;
        String[] lines = withoutComments(Files.readString(SOURCE)).split("\n");
        for (int i = 0; i < lines.length; i++) {
            if (lines[i].matches(" {4,8}[^ ].*\\) \\{")) {
                start = i;
            }
            if (lines[i].matches(" {4,8}\\}") && start >= 0) {
                CHECK.holds("at most sixty lines: " + lines[start].trim(), i - start < 60);
                start = -1;
            }
        }
    }

    /** The fields and elements of all that an object holds. */
    private static int cells(Object root) throws IllegalAccessException {
        Set<Object> met = Collections.newSetFromMap(new IdentityHashMap<>());
        Deque<Object> open = new ArrayDeque<>();
        open.add(root);
        met.add(root);
        int cells = 0;
        while (!open.isEmpty()) {
            Object one = open.remove();
            if (one.getClass().isArray()) {
                cells += Array.getLength(one);
                for (int i = 0; !one.getClass().getComponentType().isPrimitive() && i < Array.getLength(one); i++) {
                    meet(Array.get(one, i), met, open);
                }
                continue;
            }
            for (Field f : one.getClass().getDeclaredFields()) {
                if (!Modifier.isStatic(f.getModifiers())) {
                    cells++;
                    f.setAccessible(true);
                    if (!f.getType().isPrimitive()) {
                        meet(f.get(one), met, open);
                    }
                }
            }
        }
        return cells;
    }

    private static void meet(Object one, Set<Object> met, Deque<Object> open) {
        if (one != null && met.add(one)) {
            open.add(one);
        }
    }

    private static void room() throws IllegalAccessException {
        BagTrees x = new BagTrees();
        int before = cells(x);
        System.out.println("an object takes " + before + " fields and elements");
        CHECK.holds("an object takes little room", before <= MOST_CELLS);
        x.begin(10);
        for (int a = 0; a < 10; a++) {
            x.join(a, (a + 1) % 10);
            x.join(a, (a + 3) % 10);
        }
        for (int i = 0; i < 14; i++) {
            x.width(i);
            x.order(i, 0);
            x.seen(i, 0);
            x.count(i);
            x.separator(i);
            x.clique(i);
            x.total(i, 10);
            x.best(i);
            x.fewest(i);
        }
        CHECK.due("room after many calls", cells(x), before);
    }
}
