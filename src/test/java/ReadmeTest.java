import java.io.File;
import java.io.IOException;
import java.lang.reflect.InvocationTargetException;
import java.lang.reflect.Method;
import java.lang.reflect.Modifier;
import java.nio.file.Files;
import java.nio.file.Paths;
import java.util.Set;
import java.util.TreeSet;
import java.util.regex.Matcher;
import java.util.regex.Pattern;

/** README.md: makes its rows of calls on one object, and looks that it names all calls and tests. */
public final class ReadmeTest {
    private static final Check CHECK = new Check();
    private static final String MADE = "SaintsRoad road = new SaintsRoad();";
    private static final Pattern ROW = Pattern.compile("road\\.(\\w+)\\(([^)]*)\\); *// (-?\\d+)\\b.*");

    public static void main(String[] args) throws IOException, ReflectiveOperationException {
        String page = new String(Files.readAllBytes(Paths.get("README.md")));
        Set<String> called = makeCalls(page);
        for (Method m : SaintsRoad.class.getDeclaredMethods()) {
            if (Modifier.isPublic(m.getModifiers())) {
                CHECK.that("README.md shows a call of " + m.getName(), called.contains(m.getName()));
            }
        }
        namesTests(page);
        CHECK.finish();
    }

    /** The names of those that were called. */
    private static Set<String> makeCalls(String page) throws ReflectiveOperationException {
        Set<String> called = new TreeSet<>();
        SaintsRoad road = null;
        Matcher block = Pattern.compile("(?s)```java\n(.*?)```").matcher(page);
        while (block.find()) {
            for (String line : block.group(1).split("\n")) {
                Matcher row = ROW.matcher(line);
                if (line.equals(MADE)) {
                    road = new SaintsRoad();
                } else if (road != null && row.matches()) {
                    called.add(row.group(1));
                    CHECK.due("README.md's " + row.group(1) + "(" + row.group(2) + ")",
                        call(road, row.group(1), row.group(2)), Integer.parseInt(row.group(3)));
                } else {
                    CHECK.that("a call with its answer: " + line, false);
                }
            }
        }
        return called;
    }

    private static int call(SaintsRoad road, String name, String told) throws ReflectiveOperationException {
        String[] words = told.isEmpty() ? new String[0] : told.split(", ");
        Class<?>[] types = new Class<?>[words.length];
        Object[] values = new Object[words.length];
        for (int i = 0; i < words.length; i++) {
            boolean isTruth = words[i].equals("true") || words[i].equals("false");
            types[i] = isTruth ? boolean.class : int.class;
            values[i] = isTruth ? (Object) Boolean.valueOf(words[i]) : (Object) Integer.decode(words[i]);
        }
        try {
            return (Integer) SaintsRoad.class.getMethod(name, types).invoke(road, values);
        } catch (InvocationTargetException e) {
            throw new IllegalStateException(name + "(" + told + ")", e);
        }
    }

    private static void namesTests(String page) {
        CHECK.that("how to run the tests", page.contains("bash .ci/run"));
        File[] files = new File("src/test/java").listFiles();
        CHECK.that("the project has tests", files != null);
        Set<String> there = new TreeSet<>();
        for (File file : files == null ? new File[0] : files) {
            if (file.getName().endsWith("Test.java")) {
                there.add(file.getName().replace(".java", ""));
            }
        }
        Set<String> told = new TreeSet<>();
        Matcher row = Pattern.compile("\n\\| `(\\w+Test)` \\|").matcher(page);
        while (row.find()) {
            told.add(row.group(1));
        }
        CHECK.that("README.md's tests " + told + ", those that are there " + there, told.equals(there));
    }
}
