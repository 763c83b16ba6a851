import java.io.IOException;
import java.lang.reflect.Method;
import java.lang.reflect.Modifier;
import java.net.URL;
import java.net.URLClassLoader;
import java.nio.file.Files;
import java.nio.file.Path;
import java.util.ArrayList;
import java.util.Comparator;
import java.util.List;
import java.util.Set;
import java.util.TreeSet;
import java.util.regex.Matcher;
import java.util.regex.Pattern;
import java.util.stream.Stream;
import javax.tools.JavaCompiler;
import javax.tools.ToolProvider;

/** What README.md says is so: its calls compile and answer as it says, and its command runs the tests. */
public final class ReadmeTest {
    private static final Pattern BLOCK = Pattern.compile("^```java\n(.*?)^```$", Pattern.MULTILINE | Pattern.DOTALL);
    private static final Pattern CALL = Pattern.compile("^(x\\.(\\w+)\\(.*\\)); +// (-?\\d+)(:.*)?$");
    private static final Pattern COMMAND = Pattern.compile("^    (\\S.*)$", Pattern.MULTILINE);
    private static final Pattern TEST = Pattern.compile("`(\\w+Test)`");

    private static final List<String> calls = new ArrayList<>();
    private static final List<Long> wants = new ArrayList<>();
    private static final Set<String> names = new TreeSet<>();

    public static void main(String[] args) throws Exception {
        String readme = Files.readString(Path.of("README.md"));
        String program = programOf(readme);
        Path work = Files.createTempDirectory("readme");
        try {
            runProgram(program, work);
        } finally {
            remove(work);
        }
        everyCallIsShown();
        commands(readme);
        testsAreNamed(readme);
        Check.end("ReadmeTest");
    }

    /** The blocks as a class; each call whose answer is told puts it into a row. */
    private static String programOf(String readme) {
        StringBuilder body = new StringBuilder();
        Matcher block = BLOCK.matcher(readme);
        while (block.find()) {
            for (String line : block.group(1).split("\n")) {
                Matcher call = CALL.matcher(line);
                if (call.matches()) {
                    body.append("row.add((long) ").append(call.group(1)).append(");\n");
                    calls.add(call.group(1));
                    names.add(call.group(2));
                    wants.add(Long.parseLong(call.group(3)));
                } else {
                    Check.due("README.md tells the answer: " + line, !line.startsWith("x."));
                    body.append(line).append('\n');
                }
            }
        }
        Matcher inside = Pattern.compile("x\\.(\\w+)\\(").matcher(body);
        while (inside.find()) {
            names.add(inside.group(1));
        }
        return "public final class Mine {\n    public static java.util.List<Long> run() {\n"
            + "java.util.List<Long> row = new java.util.ArrayList<>();\n" + body + "return row;\n    }\n}\n";
    }

    private static void runProgram(String program, Path work) throws Exception {
        Path mine = work.resolve("Mine.java");
        Files.writeString(mine, program);
        JavaCompiler compiler = ToolProvider.getSystemJavaCompiler();
        Check.due("there is a compiler", compiler != null);
        int answer = compiler == null ? -1 : compiler.run(null, null, null, "-d", work.resolve("out").toString(),
            "src/main/java/BidsJudged.java", mine.toString());
        Check.due("README.md's blocks compile with the class", answer, 0);
        if (answer != 0) {
            return;
        }
        URL[] where = {work.resolve("out").toUri().toURL()};
        try (URLClassLoader loader = new URLClassLoader(where, ClassLoader.getPlatformClassLoader())) {
            List<?> got = (List<?>) loader.loadClass("Mine").getMethod("run").invoke(null);
            Check.due("answers", got.size(), wants.size());
            for (int i = 0; i < got.size() && i < wants.size(); i++) {
                Check.due("README.md: " + calls.get(i), (Long) got.get(i), wants.get(i));
            }
        }
    }

    private static void everyCallIsShown() {
        for (Method method : BidsJudged.class.getDeclaredMethods()) {
            if (Modifier.isPublic(method.getModifiers())) {
                Check.due("README.md shows " + method.getName(), names.contains(method.getName()));
            }
        }
    }

    private static void commands(String readme) {
        Set<String> shown = new TreeSet<>();
        Matcher command = COMMAND.matcher(BLOCK.matcher(readme).replaceAll(""));
        while (command.find()) {
            shown.add(command.group(1));
        }
        Set<String> known = Set.of("javac -d out src/main/java/BidsJudged.java Mine.java", "java -cp out Mine",
            "bash .ci/run");
        Check.due("README.md's commands: " + shown, shown.equals(known));
        Check.due(".ci/run can be run", Files.isExecutable(Path.of(".ci/run")));
    }

    private static void testsAreNamed(String readme) throws IOException {
        Set<String> named = new TreeSet<>();
        Matcher test = TEST.matcher(readme);
        while (test.find()) {
            named.add(test.group(1));
        }
        Set<String> there = new TreeSet<>();
        try (Stream<Path> files = Files.list(Path.of("src/test/java"))) {
            files.map(file -> file.getFileName().toString())
                .filter(file -> file.endsWith("Test.java"))
                .forEach(file -> there.add(file.replace(".java", "")));
        }
        Check.due("README.md names the tests: " + named + ", there are: " + there, named.equals(there));
    }

    private static void remove(Path directory) throws IOException {
        try (Stream<Path> files = Files.walk(directory)) {
            for (Path file : files.sorted(Comparator.reverseOrder()).toList()) {
                Files.delete(file);
            }
        }
    }
}
