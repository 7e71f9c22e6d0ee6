import java.io.IOException;
import java.net.URL;
import java.net.URLClassLoader;
import java.nio.charset.StandardCharsets;
import java.nio.file.Files;
import java.nio.file.Path;
import java.util.ArrayList;
import java.util.Comparator;
import java.util.List;
import java.util.TreeSet;
import java.util.function.Supplier;
import java.util.regex.Matcher;
import java.util.regex.Pattern;
import java.util.stream.Collectors;
import java.util.stream.Stream;
import javax.tools.ToolProvider;

/** That README.md holds: its example answers as it tells, its commands work, and it names each test. */
public final class ReadmeTest extends Checks {
    private static final Path README = Path.of("README.md");
    private static final Path TESTS = Path.of("src/test/java");
    /** A call, and behind it what it answers, up to a colon. */
    private static final Pattern TOLD = Pattern.compile("(int \\w+ = )?(.+?); +// ([^:]+)(: .*)?");
    private static final String FRAME = "import java.util.*;\n"
        + "public class Example implements java.util.function.Supplier<List<String>> {\n"
        + "    interface Call { Object answer(); }\n"
        + "    final List<String> answers = new ArrayList<>();\n"
        + "    Object told(Call call) {\n"
        + "        Object told = null;\n"
        + "        try { told = call.answer(); } catch (RuntimeException e) {\n"
        + "            told = \"throws \" + e.getClass().getSimpleName();\n"
        + "        }\n"
        + "        answers.add(told.toString());\n"
        + "        return told;\n"
        + "    }\n"
        + "    public List<String> get() {\n%s        return answers;\n    }\n}\n";

    public static void main(String[] args) throws Exception {
        String text = Files.readString(README, StandardCharsets.UTF_8);
        Path work = Files.createTempDirectory("readme");
        try {
            for (String example : blocks(text, "java")) {
                example(example, work);
            }
        } finally {
            remove(work);
        }
        for (String script : blocks(text, "sh")) {
            script(script);
        }
        testsAreNamed(text);
        finish("ReadmeTest");
    }

    private static List<String> blocks(String text, String language) {
        List<String> blocks = new ArrayList<>();
        Matcher block = Pattern.compile("```" + language + "\n(.*?)```", Pattern.DOTALL).matcher(text);
        while (block.find()) {
            blocks.add(block.group(1));
        }
        due("there are blocks of " + language, true, !blocks.isEmpty());
        return blocks;
    }

    private static void example(String example, Path work) throws Exception {
        List<String> lines = new ArrayList<>();
        List<String> wants = new ArrayList<>();
        StringBuilder calls = new StringBuilder();
        for (String line : example.split("\n")) {
            Matcher told = TOLD.matcher(line);
            if (told.matches()) {
                lines.add(line);
                wants.add(told.group(3));
                calls.append(told.group(1) == null ? "" : told.group(1) + "(Integer) ");
                calls.append("told(() -> ").append(told.group(2)).append(");\n");
            } else {
                due("a line without an answer is a comment, or makes the store: " + line, true,
                    line.isEmpty() || line.startsWith("// ") || line.equals("GridStore store = new GridStore();"));
                calls.append(line).append('\n');
            }
        }
        due("the example has calls", true, !lines.isEmpty());
        List<String> answers = answersOf(String.format(FRAME, calls), work);
        for (int i = 0; i < lines.size(); i++) {
            due(lines.get(i), wants.get(i), i < answers.size() ? answers.get(i) : "nothing");
        }
    }

    private static List<String> answersOf(String program, Path work) throws Exception {
        Path source = work.resolve("Example.java");
        Files.writeString(source, program);
        int result = ToolProvider.getSystemJavaCompiler().run(null, null, null, "-proc:none", "-cp",
            System.getProperty("java.class.path"), "-d", work.toString(), source.toString());
        due("the example compiles", 0, result);
        if (result != 0) {
            return List.of();
        }
        URL[] places = {work.toUri().toURL()};
        try (URLClassLoader loader = new URLClassLoader(places, ReadmeTest.class.getClassLoader())) {
            Object made = loader.loadClass("Example").getConstructor().newInstance();
            List<String> answers = new ArrayList<>();
            for (Object answer : (List<?>) ((Supplier<?>) made).get()) {
                answers.add((String) answer);
            }
            return answers;
        }
    }

    private static void script(String script) throws Exception {
        if (script.equals(".ci/run\n")) {
            // it runs this test, too: that it can be called is all that can be looked at from here
            due(".ci/run can be called", true, Files.isExecutable(Path.of(".ci/run")));
            return;
        }
        Process shell = new ProcessBuilder("sh", "-e", "-c", script).redirectErrorStream(true).start();
        shell.getOutputStream().close();
        String printed = new String(shell.getInputStream().readAllBytes(), StandardCharsets.UTF_8);
        int result = shell.waitFor();
        due("result of " + script + printed, 0, result);
    }

    private static void testsAreNamed(String text) throws IOException {
        TreeSet<String> named = new TreeSet<>();
        Matcher name = Pattern.compile("`src/test/java/(\\w+\\.java)`").matcher(text);
        while (name.find()) {
            named.add(name.group(1));
        }
        try (Stream<Path> files = Files.list(TESTS)) {
            due("tests", files.map(file -> file.getFileName().toString()).collect(Collectors.toCollection(TreeSet::new)),
                named);
        }
    }

    private static void remove(Path work) throws IOException {
        List<Path> files;
        try (Stream<Path> all = Files.walk(work)) {
            files = all.sorted(Comparator.reverseOrder()).collect(Collectors.toList());
        }
        for (Path file : files) {
            Files.delete(file);
        }
    }
}
