import java.io.ByteArrayOutputStream;
import java.io.IOException;
import java.io.PrintStream;
import java.lang.reflect.Method;
import java.lang.reflect.Modifier;
import java.net.URL;
import java.net.URLClassLoader;
import java.nio.charset.StandardCharsets;
import java.nio.file.DirectoryStream;
import java.nio.file.Files;
import java.nio.file.Path;
import java.util.Set;
import java.util.TreeSet;
import java.util.regex.Matcher;
import java.util.regex.Pattern;
import javax.tools.JavaCompiler;
import javax.tools.ToolProvider;

/** What README.md says is true: its program runs and prints that, and it has all calls and all tests. */
public final class ReadmeTest {
    private static final Path TESTS = Path.of("src/test/java");
    private static final Pattern PROGRAM = Pattern.compile("```java\n(.*?)```.*?```\n(.*?)```", Pattern.DOTALL);
    private static final Pattern TEST = Pattern.compile("^\\| (\\w+Test) \\|", Pattern.MULTILINE);
    private static final Pattern CALLS = Pattern.compile("^\\| (`.*`) \\|", Pattern.MULTILINE);
    private static final Pattern QUOTED = Pattern.compile("`(\\w+)`");
    private static final Pattern COMMAND = Pattern.compile("^    java -cp build/project (\\w+)", Pattern.MULTILINE);
    private static final Pattern FILE = Pattern.compile("`((?:\\.\\./|\\.ci/|src/)[\\w./]*)`");
    private static final Check check = new Check();

    public static void main(String[] args) throws Exception {
        String readme = Files.readString(Path.of("README.md"));
        program(readme);
        check.equal("the calls in the table", publicMethods(), calls(readme));
        check.equal("the tests in the table", testFiles(), found(TEST, readme));
        for (String name : found(COMMAND, readme)) {
            check.equal(name + " can be run alone", true, testFiles().contains(name));
        }
        for (String file : found(FILE, readme)) {
            boolean isShared = file.startsWith("../shared") && !Document.isThere();
            check.equal(file + " is there", true, isShared || Files.exists(Path.of(file)));
        }
        check.equal(".ci/run can be run", true, Files.isExecutable(Path.of(".ci/run")));
        check.end();
    }

    private static Set<String> found(Pattern pattern, String text) {
        Set<String> found = new TreeSet<>();
        Matcher matcher = pattern.matcher(text);
        while (matcher.find()) {
            found.add(matcher.group(1));
        }
        return found;
    }

    private static Set<String> calls(String readme) {
        Set<String> calls = new TreeSet<>();
        for (String row : found(CALLS, readme)) {
            calls.addAll(found(QUOTED, row));
        }
        return calls;
    }

    private static Set<String> publicMethods() {
        Set<String> names = new TreeSet<>();
        for (Method method : TrainTimetable.class.getDeclaredMethods()) {
            if (Modifier.isPublic(method.getModifiers())) {
                names.add(method.getName());
            }
        }
        return names;
    }

    private static Set<String> testFiles() throws IOException {
        Set<String> names = new TreeSet<>();
        try (DirectoryStream<Path> files = Files.newDirectoryStream(TESTS, "*Test.java")) {
            for (Path file : files) {
                names.add(file.getFileName().toString().replace(".java", ""));
            }
        }
        return names;
    }

    private static void program(String readme) throws Exception {
        Matcher matcher = PROGRAM.matcher(readme);
        boolean isThere = matcher.find();
        check.equal("README.md has a program and what it prints", true, isThere);
        if (isThere) {
            check.equal("what the program prints", matcher.group(2), output(matcher.group(1)));
        }
    }

    /** Compiles the program, which is a class Example, and runs it. */
    private static String output(String program) throws Exception {
        Path directory = Files.createDirectories(Path.of("build/readme"));
        Path source = directory.resolve("Example.java");
        Files.writeString(source, program);
        JavaCompiler compiler = ToolProvider.getSystemJavaCompiler();
        int exit = compiler.run(null, System.out, System.out, "-Xlint:all", "-Werror", "-cp",
                System.getProperty("java.class.path"), "-d", directory.toString(), source.toString());
        check.equal("the program compiles", 0, exit);
        if (exit != 0) {
            return "";
        }
        PrintStream usual = System.out;
        ByteArrayOutputStream printed = new ByteArrayOutputStream();
        try (URLClassLoader loader = new URLClassLoader(new URL[] {directory.toUri().toURL()})) {
            Method main = loader.loadClass("Example").getMethod("main", String[].class);
            System.setOut(new PrintStream(printed, true, StandardCharsets.UTF_8));
            main.invoke(null, (Object) new String[0]);
        } finally {
            System.setOut(usual);
        }
        return printed.toString(StandardCharsets.UTF_8).replace(System.lineSeparator(), "\n");
    }
}
