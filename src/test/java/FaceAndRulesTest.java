import java.io.IOException;
import java.lang.reflect.Constructor;
import java.lang.reflect.Field;
import java.lang.reflect.Method;
import java.lang.reflect.Modifier;
import java.nio.file.Files;
import java.nio.file.Paths;
import java.util.Arrays;
import java.util.List;
import java.util.Map;
import java.util.Set;
import java.util.TreeMap;
import java.util.TreeSet;
import java.util.regex.Matcher;
import java.util.regex.Pattern;

/** The public face, and those rules of LANGUAGE.md that a look at the class and its text can tell. */
public final class FaceAndRulesTest {
    private static final Check CHECK = new Check();
    /** Each method and the first letters of its parameters' types. */
    private static final String[] FACE = {"feed iiiii", "end i", "calendar i", "fault i", "feast iii", "easter i",
        "date iii", "office iii", "held iii", "own iii", "fast iii", "wax iiii", "next iiii", "unlike iii", "quarrel iib",
        "rota iiiii", "turn ii", "carried i", "street iii", "begin iiii", "goes ii", "late ii", "procession ii", "meets ",
        "meeting ii", "timed ii", "count i"};

    /** A method's or constructor's first line, at the outer class or in one inside it. */
    private static final Pattern METHOD = Pattern.compile(
        "(?m)^( {4}| {8})(?:(?:public|private|static) )*(?:[\\w\\[\\]]+ )?(\\w+)\\([^)]*\\) \\{$");
    private static final int MOST_LINES = 60;
    private static final int DEEPEST = 8;

    public static void main(String[] args) throws IOException {
        faceIsTheDocuments();
        face();
        nestedClasses();
        String code = code();
        text(code);
        methods(code);
        CHECK.finish();
    }

    private static void faceIsTheDocuments() throws IOException {
        String document = new String(Files.readAllBytes(Paths.get("../shared/DOC.md")));
        Matcher row = Pattern.compile("\n    public int (\\w+)\\((.*)\\);").matcher(document);
        Set<String> told = new TreeSet<>();
        while (row.find()) {
            StringBuilder types = new StringBuilder();
            for (String parameter : row.group(2).split(", ")) {
                types.append(parameter.isEmpty() ? "" : parameter.substring(0, 1));
            }
            told.add(row.group(1) + " " + types);
        }
        CHECK.that("the document's face: " + told, told.equals(new TreeSet<>(Arrays.asList(FACE))));
    }

    private static void face() {
        Class<?> type = SaintsRoad.class;
        CHECK.that("public and final", Modifier.isPublic(type.getModifiers()) && Modifier.isFinal(type.getModifiers()));
        Set<String> methods = new TreeSet<>();
        for (Method m : type.getDeclaredMethods()) {
            if (Modifier.isPrivate(m.getModifiers())) {
                CHECK.that("no name of the face: " + m, !isOfTheFace(m.getName()));
            } else {
                CHECK.that("public, answers int: " + m, Modifier.isPublic(m.getModifiers())
                    && m.getReturnType() == int.class && !Modifier.isStatic(m.getModifiers()));
                StringBuilder types = new StringBuilder();
                for (Class<?> t : m.getParameterTypes()) {
                    types.append(t.getName().charAt(0));
                    CHECK.that("int or boolean: " + t, t == int.class || t == boolean.class);
                }
                methods.add(m.getName() + " " + types);
            }
        }
        CHECK.that("the methods of the face: " + methods, methods.equals(new TreeSet<>(Arrays.asList(FACE))));
        Set<String> fields = new TreeSet<>();
        for (Field f : type.getDeclaredFields()) {
            if (!Modifier.isPrivate(f.getModifiers())) {
                fields.add(f.getName());
            }
        }
        CHECK.that("the constants: " + fields, fields.equals(new TreeSet<>(Arrays.asList("NONE", "RANGE", "FULL"))));
        Constructor<?>[] made = type.getDeclaredConstructors();
        CHECK.that("one constructor", made.length == 1 && Modifier.isPublic(made[0].getModifiers())
            && made[0].getParameterCount() == 0);
        CHECK.due("NONE", SaintsRoad.NONE, -1);
        CHECK.due("RANGE", SaintsRoad.RANGE, -2);
        CHECK.due("FULL", SaintsRoad.FULL, -3);
    }

    private static boolean isOfTheFace(String name) {
        for (String row : FACE) {
            if (row.startsWith(name + " ")) {
                return true;
            }
        }
        return false;
    }

    private static void nestedClasses() {
        Class<?>[] nested = SaintsRoad.class.getDeclaredClasses();
        CHECK.that("at most twelve classes", nested.length < 12);
        for (Class<?> type : nested) {
            CHECK.that("static: " + type, Modifier.isStatic(type.getModifiers()));
            int fields = 0;
            for (Field f : type.getDeclaredFields()) {
                boolean isStatic = Modifier.isStatic(f.getModifiers());
                CHECK.that("static is final: " + f, !isStatic || Modifier.isFinal(f.getModifiers()));
                fields += isStatic ? 0 : 1;
            }
            CHECK.that("at most twenty fields: " + type, fields <= 20);
            for (Method m : type.getDeclaredMethods()) {
                CHECK.that("no name of the face: " + m, !isOfTheFace(m.getName()));
                CHECK.that("at most seven parameters: " + m, m.getParameterCount() <= 7);
            }
        }
    }

    /** The class's text without comments and texts in quotes. */
    private static String code() throws IOException {
        List<String> lines = Files.readAllLines(Paths.get("src/main/java/SaintsRoad.java"));
        return String.join("\n", lines).replaceAll("(?s)/\\*.*?\\*/", "").replaceAll("//[^\n]*", "")
            .replaceAll("\"[^\"\n]*\"", "\"\"");
    }

    private static void text(String code) {
        String[] banned = {"throw", "throws", "try", "catch", "synchronized", "assert", "equals", "hashCode",
            "toString", "protected", "package", "Object", "System"};
        for (String word : banned) {
            Matcher found = Pattern.compile("\\b" + word + "\\b").matcher(code);
            CHECK.that("no " + word, !found.find());
        }
        CHECK.that("no lambda", !code.contains("->"));
        CHECK.that("no method reference", !code.contains("::"));
        CHECK.that("plain signs only", code.chars().allMatch(c -> c < 128));
        Matcher imports = Pattern.compile("import ([\\w.*]+);").matcher(code);
        while (imports.find()) {
            CHECK.that("import " + imports.group(1), imports.group(1).equals("java.util.Arrays"));
        }
        // A call makes nothing: every new stands in a constructor or where a field is told.
        Matcher made = Pattern.compile("\n( *)[^\n]*\\bnew\\b[^\n]*").matcher(code);
        while (made.find()) {
            String line = made.group().trim();
            boolean field = line.matches("(private )?(final )?\\w+(\\[\\])? \\w+ = new .*;");
            boolean row = line.matches("\\w+(\\[\\w\\])? = new \\w+(\\[\\w+\\]|\\(\\));");
            CHECK.that("made with the object: " + line, field || row);
        }
    }

    /** Rules 8 and 11: methods are short, none comes to call itself, and calls go at most eight deep. */
    private static void methods(String code) {
        Map<String, String> bodies = new TreeMap<>();
        Matcher method = METHOD.matcher(code);
        while (method.find()) {
            int close = code.indexOf("\n" + method.group(1) + "}", method.end());
            CHECK.that("an end of " + method.group(2), close >= 0);
            String body = code.substring(method.end(), Math.max(close, method.end()));
            CHECK.that("short: " + method.group(2), body.split("\n").length < MOST_LINES);
            bodies.merge(method.group(2), body, String::concat);
        }
        for (String row : FACE) {
            String name = row.split(" ")[0];
            CHECK.that("the text has " + name, bodies.containsKey(name));
            int deep = depth(name, bodies, 0);
            CHECK.that(name + " goes " + deep + " deep", deep <= DEEPEST);
        }
        CHECK.that("the constructor", depth("SaintsRoad", bodies, 0) <= DEEPEST);
    }

    /** How many calls stand open at once, by names alone; far above the bound where one calls itself. */
    private static int depth(String name, Map<String, String> bodies, int above) {
        if (above > DEEPEST) {
            return 1;
        }
        int deepest = 0;
        Matcher called = Pattern.compile("\\b(\\w+)\\(").matcher(bodies.get(name));
        while (called.find()) {
            if (bodies.containsKey(called.group(1))) {
                deepest = Math.max(deepest, depth(called.group(1), bodies, above + 1));
            }
        }
        return 1 + deepest;
    }
}
