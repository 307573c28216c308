import java.io.IOException;
import java.lang.reflect.Method;
import java.lang.reflect.Modifier;
import java.net.URL;
import java.net.URLClassLoader;
import java.nio.file.Files;
import java.nio.file.Path;
import java.util.ArrayList;
import java.util.List;
import java.util.Set;
import java.util.TreeSet;
import java.util.function.BiConsumer;
import java.util.regex.Matcher;
import java.util.regex.Pattern;
import java.util.stream.Stream;
import javax.tools.ToolProvider;

/** What README.md says: its examples are compiled and run, and each call and each test stands there. */
public final class ReadmeTest {
    private static final Path README = Path.of("README.md");
    private static final Path TESTS = Path.of("src/test/java");
    private static final Pattern JAVA = Pattern.compile("(?s)```java\n(.*?)```");
    private static final Pattern LINE = Pattern.compile("(?m)^\\| `([a-z]+ [^`]*;)` \\|");
    private static final Pattern ASKED = Pattern.compile("man\\.(\\w+)\\((.*)\\); +// (-?\\d+).*");

    public static void main(String[] args) throws IOException, ReflectiveOperationException {
        String readme = Files.readString(README);
        List<String> blocks = new ArrayList<>();
        for (Matcher m = JAVA.matcher(readme); m.find();) {
            blocks.add(m.group(1));
        }
        Check.due("blocks of Java", blocks.size(), 2);
        run(blocks.get(0), blocks.get(1));
        everyCall(blocks.get(1));
        everyLine(readme);
        everyTest(readme);
        Check.finish("ReadmeTest");
    }

    /** The example, with the number behind a call as the answer that is due. */
    private static void run(String helper, String example) throws IOException, ReflectiveOperationException {
        StringBuilder code = new StringBuilder("public final class Example {\n" + helper
                + "static void run(java.util.function.BiConsumer<String, int[]> due) {\n");
        for (String line : example.split("\n")) {
            Matcher m = ASKED.matcher(line);
            if (m.matches()) {
                String call = "man." + m.group(1) + "(" + m.group(2) + ")";
                code.append("due.accept(\"").append(call).append("\", new int[] {").append(call).append(", ")
                        .append(m.group(3)).append("});\n");
            } else {
                code.append(line).append('\n');
                Check.due("README.md has an answer for: " + line, line.startsWith("man.") ? 1 : 0, 0);
            }
        }
        Path built = Files.createTempDirectory("readme");
        Path source = built.resolve("Example.java");
        Files.writeString(source, code.append("}\n}\n"));
        String classes = System.getProperty("java.class.path");
        int failed = ToolProvider.getSystemJavaCompiler().run(null, null, null, "-cp", classes, "-d", built.toString(),
                source.toString());
        Check.due("the example of README.md compiles", failed, 0);
        if (failed == 0) {
            try (URLClassLoader loader = new URLClassLoader(new URL[] {built.toUri().toURL()})) {
                Method run = loader.loadClass("Example").getDeclaredMethod("run", BiConsumer.class);
                run.setAccessible(true);
                BiConsumer<String, int[]> due = (call, pair) -> Check.due("README.md: " + call, pair[0], pair[1]);
                run.invoke(null, due);
            }
        }
        remove(built);
    }

    private static void remove(Path directory) throws IOException {
        try (Stream<Path> files = Files.list(directory)) {
            for (Path file : files.toList()) {
                Files.delete(file);
            }
        }
        Files.delete(directory);
    }

    private static void everyCall(String example) {
        for (Method method : SameMan.class.getDeclaredMethods()) {
            if (Modifier.isPublic(method.getModifiers())) {
                String call = "\nman." + method.getName() + "(";
                Check.due("README.md has an example of " + method.getName(), example.contains(call) ? 1 : 0, 1);
            }
        }
    }

    /** The lines that README.md lists are a text that is taken. */
    private static void everyLine(String readme) {
        StringBuilder text = new StringBuilder();
        int lines = 0;
        for (Matcher m = LINE.matcher(readme); m.find();) {
            text.append(m.group(1));
            lines++;
        }
        Check.due("kinds of lines", lines, 6);
        SameMan man = new SameMan();
        Script.tape(man, text.toString());
        Check.due("README.md: " + text, man.text(), lines);
    }

    private static void everyTest(String readme) throws IOException {
        Set<String> told = new TreeSet<>();
        for (Matcher m = Pattern.compile("(?m)^\\| (\\w+Test(?:, \\w+Test)*) \\|").matcher(readme); m.find();) {
            told.addAll(List.of(m.group(1).split(", ")));
        }
        Set<String> there = new TreeSet<>();
        try (Stream<Path> files = Files.list(TESTS)) {
            files.map(file -> file.getFileName().toString()).filter(name -> name.endsWith("Test.java"))
                    .forEach(name -> there.add(name.replace(".java", "")));
        }
        Check.due("README.md tells the tests " + told + " of " + there, told.equals(there) ? 1 : 0, 1);
    }
}
