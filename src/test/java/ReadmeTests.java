import java.io.IOException;
import java.lang.reflect.Method;
import java.lang.reflect.Modifier;
import java.net.URL;
import java.net.URLClassLoader;
import java.nio.charset.StandardCharsets;
import java.nio.file.Files;
import java.nio.file.Path;
import java.util.List;
import java.util.regex.Matcher;
import java.util.regex.Pattern;
import javax.tools.ToolProvider;

/**
 * README.md tells the truth: the program in it is compiled and run as it stands there, and the first
 * word behind each call's // is compared with what the call answers. Every call and every test is named.
 */
public final class ReadmeTests {
    private static final Pattern ANSWERED = Pattern.compile("\\w+ (\\w+) = .*;\\s+// ([^\\s,]+).*");

    public static void main(String[] args) throws Exception {
        String readme = Files.readString(Path.of("README.md"), StandardCharsets.UTF_8);
        namesEveryCall(readme);
        namesEveryTest(readme);
        runs(programIn(readme));
        Check.end();
    }

    private static void namesEveryCall(String readme) {
        for (Method method : Remotepane.class.getDeclaredMethods()) {
            if (Modifier.isPublic(method.getModifiers())) {
                Check.same("README names the call " + method.getName(),
                        readme.contains("`" + method.getName() + "`"), true);
            }
        }
    }

    private static void namesEveryTest(String readme) throws IOException {
        try (var files = Files.list(Path.of("src/test/java"))) {
            for (Path file : (Iterable<Path>) files::iterator) {
                String name = file.getFileName().toString().replace(".java", "");
                Check.same("README names the test " + name,
                        !name.endsWith("Tests") || readme.contains("| `" + name + "` |"), true);
            }
        }
    }

    private static List<String> programIn(String readme) {
        Matcher block = Pattern.compile("(?s)```java\n(.*?)```").matcher(readme);
        boolean isThere = block.find();
        Check.same("README has a program", isThere, true);
        return isThere ? block.group(1).lines().toList() : List.of();
    }

    private static void runs(List<String> program) throws Exception {
        StringBuilder source = new StringBuilder();
        int answers = 0;
        source.append("public final class ReadmeProgram {\n");
        source.append("public static String answers() {\n");
        source.append("StringBuilder told = new StringBuilder();\n");
        StringBuilder due = new StringBuilder();
        for (String line : program) {
            source.append(line).append('\n');
            Matcher answered = ANSWERED.matcher(line);
            if (answered.matches()) {
                String name = answered.group(1);
                source.append("told.append(\"" + name + " = \").append(" + name + ").append('\\n');\n");
                due.append(name + " = " + answered.group(2) + "\n");
                answers++;
            }
        }
        source.append("return told.toString();\n}\n}\n");
        Check.same("README tells answers", answers > 20, true);
        Check.same("README's program", answersOf(source.toString()), due.toString());
    }

    private static String answersOf(String source) throws Exception {
        Path directory = Files.createTempDirectory("readme");
        Path file = directory.resolve("ReadmeProgram.java");
        Path compiled = directory.resolve("ReadmeProgram.class");
        try {
            Files.writeString(file, source, StandardCharsets.UTF_8);
            int failed = ToolProvider.getSystemJavaCompiler().run(null, null, null, "-cp",
                    System.getProperty("java.class.path"), "-d", directory.toString(), file.toString());
            if (failed != 0) {
                return "it does not compile";
            }
            URL[] places = {directory.toUri().toURL()};
            try (URLClassLoader loader = new URLClassLoader(places)) {
                return "" + loader.loadClass("ReadmeProgram").getMethod("answers").invoke(null);
            }
        } finally {
            Files.deleteIfExists(compiled);
            Files.deleteIfExists(file);
            Files.deleteIfExists(directory);
        }
    }
}
