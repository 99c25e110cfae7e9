import java.io.File;
import java.io.IOException;
import java.net.URL;
import java.net.URLClassLoader;
import java.nio.file.Files;
import java.nio.file.Path;
import java.util.ArrayList;
import java.util.List;
import java.util.regex.Matcher;
import java.util.regex.Pattern;
import java.util.stream.Stream;
import javax.tools.ToolProvider;

/** What README.md says of use and tests holds as it is written there. */
public final class ReadmeTest {
    private static final Path TESTS = Path.of("src/test/java");

    /** A line of the example that tells an answer: a name for it or none, the call, the answer. */
    private static final Pattern ANSWER = Pattern.compile("(?:int (\\w+) = )?(.+);\\s+// (-?\\d+)(?:,.*)?");
    private static final Due due = new Due();

    public static void main(String[] args) throws Exception {
        List<String> readme = Files.readAllLines(Path.of("README.md"));
        Path work = Files.createTempDirectory("readme");
        try {
            example(readme, work);
            commands(readme, work);
        } finally {
            remove(work);
        }
        names(readme);
        due.end();
    }

    private static void example(List<String> readme, Path work) throws Exception {
        due.sentence("README.md, Use: the example");
        List<String> lines = readme.subList(readme.indexOf("```java") + 1, readme.indexOf("```"));
        List<String> calls = new ArrayList<>();
        List<Integer> wanted = new ArrayList<>();
        StringBuilder body = new StringBuilder();
        for (String line : lines) {
            Matcher m = ANSWER.matcher(line);
            if (!m.matches()) {
                due.is("comments without an answer: " + line, line.contains("//") ? 1 : 0, 0);
                body.append(line).append('\n');
                continue;
            }
            String answer = "n[" + calls.size() + "]";
            body.append(answer).append(" = ").append(m.group(2)).append(";\n");
            if (m.group(1) != null) {
                body.append("int ").append(m.group(1)).append(" = ").append(answer).append(";\n");
            }
            calls.add(m.group(2));
            wanted.add(Integer.valueOf(m.group(3)));
        }
        int[] got = answers(body.toString(), calls.size(), work);
        for (int i = 0; i < calls.size(); i++) {
            due.is("line " + i + " of the answers, " + calls.get(i), got[i], wanted.get(i));
        }
    }

    private static int[] answers(String body, int count, Path work) throws Exception {
        Path source = work.resolve("Example.java");
        Files.writeString(source, "public final class Example { public static int[] answers() {\n"
            + "int[] n = new int[" + count + "];\n" + body + "return n; } }\n");
        int compiled = ToolProvider.getSystemJavaCompiler().run(null, null, null,
            "-cp", System.getProperty("java.class.path"), "-d", work.toString(), source.toString());
        due.is("compiling the example", compiled, 0);
        if (compiled != 0) {
            return new int[count];
        }
        try (URLClassLoader loader = new URLClassLoader(new URL[] {work.toUri().toURL()})) {
            return (int[]) loader.loadClass("Example").getMethod("answers").invoke(null);
        }
    }

    /** Runs them on a copy, so that the checkout stays as it is. */
    private static void commands(List<String> readme, Path work) throws Exception {
        due.sentence("README.md, Tests: the commands");
        StringBuilder script = new StringBuilder();
        int runsAll = 0;
        for (String line : readme.subList(readme.indexOf("## Tests"), readme.size())) {
            if (line.equals("    .ci/run")) {
                runsAll++;
            } else if (line.startsWith("    ")) {
                script.append(line.strip()).append('\n');
            }
        }
        due.is(".ci/run is named", runsAll, 1);
        due.is(".ci/run can be run", Files.isExecutable(Path.of(".ci/run")) ? 1 : 0, 1);
        due.is("one test alone is run", script.indexOf("Promise03Test") > 0 ? 1 : 0, 1);
        Path copy = work.resolve("checkout");
        copy(Path.of("src"), copy);
        File said = work.resolve("said").toFile();
        int exit = new ProcessBuilder("bash", "-ec", script.toString()).directory(copy.toFile())
            .redirectErrorStream(true).redirectOutput(said).start().waitFor();
        due.is("exit code of " + script, exit, 0);
        String text = Files.readString(said.toPath());
        due.is("the test's lines", text.contains("Promise 3: FULL") ? 1 : 0, 1);
    }

    private static void names(List<String> readme) throws IOException {
        due.sentence("README.md, Tests: every test is named, and every name is a test's");
        String text = String.join("\n", readme);
        try (Stream<Path> files = Files.list(TESTS)) {
            for (Path file : (Iterable<Path>) files::iterator) {
                String name = file.getFileName().toString().replace(".java", "");
                if (name.endsWith("Test") && !name.matches("Promise(0[2-9]|1[0-4])Test")) {
                    due.is(name + " is named", text.contains("`" + name + "`") ? 1 : 0, 1);
                }
            }
        }
        for (Matcher m = Pattern.compile("`(\\w+Test)`").matcher(text); m.find(); ) {
            due.is(m.group(1) + " is there", Files.exists(TESTS.resolve(m.group(1) + ".java")) ? 1 : 0, 1);
        }
    }

    private static void copy(Path from, Path to) throws IOException {
        try (Stream<Path> files = Files.walk(from)) {
            for (Path file : (Iterable<Path>) files::iterator) {
                Path target = to.resolve(file.toString());
                Files.createDirectories(Files.isDirectory(file) ? target : target.getParent());
                if (!Files.isDirectory(file)) {
                    Files.copy(file, target);
                }
            }
        }
    }

    private static void remove(Path path) throws IOException {
        if (Files.isDirectory(path)) {
            try (Stream<Path> inside = Files.list(path)) {
                for (Path p : (Iterable<Path>) inside::iterator) {
                    remove(p);
                }
            }
        }
        Files.delete(path);
    }
}
