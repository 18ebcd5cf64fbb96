import java.io.IOException;
import java.lang.reflect.Constructor;
import java.lang.reflect.Field;
import java.lang.reflect.Method;
import java.lang.reflect.Modifier;
import java.nio.file.Files;
import java.nio.file.Path;
import java.util.Set;
import java.util.TreeSet;
import java.util.regex.Matcher;
import java.util.regex.Pattern;

/** The public face as the document has it, and such rules of ../shared/LANGUAGE.md as can be seen from outside. */
final class LanguageTest {
    private static final Check CHECK = new Check("LanguageTest");
    private static final Path SOURCE = Path.of("src/main/java/ThingsThrown.java");
    private static final Path DOCUMENT = Path.of("../shared/DOC.md");

    public static void main(String[] args) throws IOException {
        faceIsAsTheDocumentHasIt();
        privateNamesAreTheirOwn();
        staticFieldsAreFinal();
        fewClassesFieldsAndParameters();
        sourceHasNoneOf();
        libraryIsAsListed();
        noCallMakesAnObject();
        methodsAreShort();
        CHECK.end();
    }

    private static void faceIsAsTheDocumentHasIt() throws IOException {
        Set<String> wanted = new TreeSet<>();
        Matcher m = Pattern.compile("    public (int|long) (\\w+)\\((.*?)\\);").matcher(Files.readString(DOCUMENT));
        while (m.find()) {
            wanted.add(m.group(1) + " " + m.group(2) + "(" + m.group(3).replaceAll("int \\w+", "int") + ")");
        }
        Set<String> had = new TreeSet<>();
        for (Method method : ThingsThrown.class.getDeclaredMethods()) {
            if (!Modifier.isPrivate(method.getModifiers())) {
                StringBuilder face = new StringBuilder();
                for (Class<?> type : method.getParameterTypes()) {
                    face.append(face.length() == 0 ? "" : ", ").append(type.getName());
                }
                had.add(method.getReturnType().getName() + " " + method.getName() + "(" + face + ")");
                CHECK.holds(method + " is public", Modifier.isPublic(method.getModifiers()));
                CHECK.holds(method + " is of the object", !Modifier.isStatic(method.getModifiers()));
            }
        }
        CHECK.due("methods in the document", wanted.size(), 38);
        CHECK.holds("the face is " + wanted + ", not " + had, wanted.equals(had));
        Constructor<?>[] constructors = ThingsThrown.class.getDeclaredConstructors();
        CHECK.due("constructors", constructors.length, 1);
        CHECK.due("parameters of it", constructors[0].getParameterCount(), 0);
        CHECK.holds("the class is public and final", Modifier.isPublic(ThingsThrown.class.getModifiers())
                && Modifier.isFinal(ThingsThrown.class.getModifiers()));
        Set<String> constants = new TreeSet<>();
        for (Field field : ThingsThrown.class.getDeclaredFields()) {
            if (!Modifier.isPrivate(field.getModifiers())) {
                constants.add(field.getName());
            }
        }
        CHECK.holds("the constants are not " + constants,
                constants.equals(Set.of("BAD", "FULL", "FINDING", "STATE", "SPENT", "NONE")));
    }

    private static void privateNamesAreTheirOwn() {
        Set<String> open = new TreeSet<>();
        for (Method method : ThingsThrown.class.getMethods()) {
            open.add(method.getName());
        }
        for (Method method : ThingsThrown.class.getDeclaredMethods()) {
            CHECK.holds(method + " bears a name of its own",
                    Modifier.isPublic(method.getModifiers()) || !open.contains(method.getName()));
        }
        for (Class<?> inside : ThingsThrown.class.getDeclaredClasses()) {
            CHECK.holds(inside + " is static", Modifier.isStatic(inside.getModifiers()));
            CHECK.holds(inside + " is not public", !Modifier.isPublic(inside.getModifiers()));
            for (Method method : inside.getDeclaredMethods()) {
                CHECK.holds(method + " bears a name of its own", !open.contains(method.getName()));
            }
        }
    }

    private static void staticFieldsAreFinal() {
        for (Class<?> c : allClasses()) {
            for (Field field : c.getDeclaredFields()) {
                if (Modifier.isStatic(field.getModifiers())) {
                    Class<?> type = field.getType();
                    CHECK.holds(field + " is final", Modifier.isFinal(field.getModifiers()));
                    CHECK.holds(field + " is a number or a row of them",
                            type == int.class || type == long.class || type == int[].class);
                }
            }
        }
    }

    private static void fewClassesFieldsAndParameters() {
        CHECK.holds("at most twelve classes", allClasses().length <= 12);
        for (Class<?> c : allClasses()) {
            int fields = 0;
            for (Field field : c.getDeclaredFields()) {
                if (!Modifier.isStatic(field.getModifiers())) {
                    fields++;
                }
            }
            CHECK.holds(c + " has at most twenty fields", fields <= 20);
            for (Method method : c.getDeclaredMethods()) {
                CHECK.holds(method + " takes at most seven", method.getParameterCount() <= 7);
            }
        }
    }

    private static Class<?>[] allClasses() {
        Class<?>[] inside = ThingsThrown.class.getDeclaredClasses();
        Class<?>[] all = new Class<?>[inside.length + 1];
        all[0] = ThingsThrown.class;
        System.arraycopy(inside, 0, all, 1, inside.length);
        return all;
    }

    private static String code() throws IOException {
        return Files.readString(SOURCE).replaceAll("(?s)/\\*.*?\\*/", "").replaceAll("//[^\n]*", "");
    }

    private static void sourceHasNoneOf() throws IOException {
        String code = code();
        String[] words = {"throw", "throws", "try", "catch", "synchronized", "assert", "import", "package", "float",
            "double", "Object", "String", "Exact", "hashCode", "toString", "Random", "Thread", "null"};
        for (String word : words) {
            CHECK.holds("no " + word, !Pattern.compile("\\b" + word + "\\b").matcher(code).find());
        }
        for (String sign : new String[] {"->", "::", "\"", "@"}) {
            CHECK.holds("no " + sign, !code.contains(sign));
        }
        CHECK.holds("signs 1 to 127 alone", code.chars().allMatch(c -> c > 0 && c < 128));
    }

    /** Rule 4: of these classes only functions, and no constant such as the least int. */
    private static void libraryIsAsListed() throws IOException {
        Set<String> inside = new TreeSet<>();
        for (Class<?> c : allClasses()) {
            inside.add(c.getSimpleName());
        }
        Set<String> listed = Set.of("Math.max", "Math.min", "Math.abs", "Math.floorDiv", "Math.floorMod",
                "Integer.bitCount", "Integer.compare", "System.arraycopy", "Arrays.fill");
        Matcher m = Pattern.compile("\\b([A-Z]\\w*[a-z]\\w*)\\.(\\w+)").matcher(code());
        while (m.find()) {
            CHECK.holds(m.group() + " is in the library that is listed",
                    inside.contains(m.group(1)) || listed.contains(m.group()));
        }
    }

    /** All of a run's calls live in one room: what an object needs is made with it, and used again. */
    private static void noCallMakesAnObject() throws IOException {
        boolean inConstructor = false;
        for (String line : code().split("\n")) {
            inConstructor = line.equals("    public ThingsThrown() {") || inConstructor && !line.equals("    }");
            if (Pattern.compile("\\bnew\\b").matcher(line).find()) {
                CHECK.holds("made with the object, not by a call: " + line.strip(),
                        inConstructor || line.matches(" +(private )?final [\\w\\[\\]]+ \\w+ = new .*"));
            }
        }
        for (String maker : new String[] {".clone(", "copyOf", "List<"}) {
            CHECK.holds("no " + maker, !code().contains(maker));
        }
    }

    private static void methodsAreShort() throws IOException {
        int begun = 0;
        int number = 0;
        for (String line : Files.readAllLines(SOURCE)) {
            number++;
            if (line.matches("( {4}| {8})\\S.*\\) \\{")) begun = number;
            if (line.matches("( {4}| {8})\\}") && begun > 0) {
                CHECK.holds("the method of line " + begun + " has at most sixty lines", number - begun <= 60);
                begun = 0;
            }
        }
    }
}
