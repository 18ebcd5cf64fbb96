import java.io.IOException;
import java.lang.reflect.Method;
import java.lang.reflect.Modifier;
import java.net.URL;
import java.net.URLClassLoader;
import java.nio.file.Files;
import java.nio.file.Path;
import java.util.ArrayList;
import java.util.List;
import java.util.Set;
import java.util.TreeSet;
import java.util.regex.Matcher;
import java.util.regex.Pattern;
import javax.tools.ToolProvider;

/** README.md's Java is one program: it is compiled as it stands, and each answer behind a call is the one it gives. */
final class ReadmeTest {
    private static final Check CHECK = new Check("ReadmeTest");
    private static final Pattern JAVA = Pattern.compile("(?s)```java\n(.*?)```");
    private static final Pattern CALL = Pattern.compile("x\\.(\\w+)\\((.*)\\); +// (-?[0-9]+|[A-Z]+)(:.*)?");

    public static void main(String[] args) throws Exception {
        List<String> lines = javaLines();
        Set<String> called = new TreeSet<>();
        StringBuilder body = new StringBuilder();
        int answers = 0;
        for (String line : lines) {
            Matcher call = CALL.matcher(line);
            if (call.matches()) {
                called.add(call.group(1));
                answers++;
                body.append("got.add((long) x.").append(call.group(1)).append('(').append(call.group(2))
                        .append(")); want.add((long) ").append(number(call.group(3))).append(");\n");
            } else {
                CHECK.holds("README: '" + line + "' has its answer", !line.startsWith("x."));
                body.append(line).append('\n');
            }
        }
        eachCallOfTheFace(called);
        CHECK.holds("README: at most 512 calls", answers + 7 <= 512);
        compare(lines, run(body.toString()));
        CHECK.end();
    }

    private static List<String> javaLines() throws IOException {
        List<String> lines = new ArrayList<>();
        Matcher m = JAVA.matcher(Files.readString(Path.of("README.md")));
        while (m.find()) lines.addAll(m.group(1).lines().toList());
        return lines;
    }

    private static String number(String answer) {
        return Character.isUpperCase(answer.charAt(0)) ? "ThingsThrown." + answer : answer + "L";
    }

    private static void eachCallOfTheFace(Set<String> called) {
        Set<String> face = new TreeSet<>();
        for (Method method : ThingsThrown.class.getDeclaredMethods()) {
            if (Modifier.isPublic(method.getModifiers())) face.add(method.getName());
        }
        face.removeAll(called);
        CHECK.holds("README: " + face + " are called, too", face.isEmpty());
    }

    /** What the program got, and what README.md wants, call by call. */
    private static long[][] run(String body) throws Exception {
        Path out = Files.createTempDirectory("readme");
        Path source = out.resolve("ReadmeRun.java");
        Files.writeString(source, "public class ReadmeRun { public static long[][] run() {\n"
                + "java.util.List<Long> got = new java.util.ArrayList<>(), want = new java.util.ArrayList<>();\n" + body
                + "return new long[][] {got.stream().mapToLong(v -> v).toArray(),"
                + " want.stream().mapToLong(v -> v).toArray()}; } }\n");
        try {
            int failed = ToolProvider.getSystemJavaCompiler().run(null, null, null, "-cp",
                    System.getProperty("java.class.path"), "-d", out.toString(), source.toString());
            CHECK.due("README: what javac says of its Java", failed, 0);
            if (failed != 0) return new long[2][0];
            try (URLClassLoader loader = new URLClassLoader(new URL[] {out.toUri().toURL()})) {
                return (long[][]) loader.loadClass("ReadmeRun").getMethod("run").invoke(null);
            }
        } finally {
            Files.deleteIfExists(out.resolve("ReadmeRun.class"));
            Files.delete(source);
            Files.delete(out);
        }
    }

    private static void compare(List<String> lines, long[][] gotAndWant) {
        int k = 0;
        for (String line : lines) {
            if (CALL.matcher(line).matches() && k < gotAndWant[0].length) {
                CHECK.due("README: " + line, gotAndWant[0][k], gotAndWant[1][k]);
                k++;
            }
        }
        CHECK.holds("README: there are calls in it", k > 0);
    }
}
