import java.io.IOException;
import java.nio.charset.StandardCharsets;
import java.nio.file.Files;
import java.nio.file.Path;
import java.util.ArrayList;
import java.util.Collections;
import java.util.List;
import java.util.concurrent.TimeUnit;
import java.util.stream.Collectors;
import java.util.stream.Stream;

/** A project of a few lines with this project's .ci/run in it, and a folder ../shared beside it. */
final class SmallProject {
    static final String PASSES = "new GameNet();";
    static final String FAILS = "System.exit(1);";
    static final String IS_NO_JAVA = "this is no Java";
    private static final long MINUTES = 5;

    private final String name;
    private final Path root;
    private final List<String> printed;
    private int exitCode;

    SmallProject(String name) throws IOException {
        this.name = name;
        root = Files.createTempDirectory("small");
        printed = new ArrayList<>();
        exitCode = -1;
        write("project/.ci/run", Files.readString(Path.of(".ci/run")));
        write("project/src/main/java/GameNet.java", "public final class GameNet { }");
        Files.createDirectory(root.resolve("tmp"));
    }

    SmallProject own(String test, String does) throws IOException {
        write("project/src/test/java/" + test + ".java", mainOf(test, does));
        return this;
    }

    SmallProject shared(String test, String does) throws IOException {
        write("shared/tests/" + test + ".java", mainOf(test, does));
        return this;
    }

    SmallProject breakTheClass() throws IOException {
        write("project/src/main/java/GameNet.java", IS_NO_JAVA);
        return this;
    }

    private static String mainOf(String test, String does) {
        return "public final class " + test + " {\n"
                + "    public static void main(String[] args) {\n"
                + "        System.out.println(\"this is " + test + "\");\n"
                + "        " + does + "\n"
                + "    }\n"
                + "}\n";
    }

    private void write(String file, String text) throws IOException {
        Path path = root.resolve(file);
        Files.createDirectories(path.getParent());
        Files.writeString(path, text);
    }

    /** Starts the script from the folder ahead of the project, as it may be started from any. */
    SmallProject run() throws IOException, InterruptedException {
        List<Path> ahead = files();
        Path output = Files.createTempFile("printed", ".txt");
        ProcessBuilder script = new ProcessBuilder("sh", "project/.ci/run").directory(root.toFile())
                .redirectErrorStream(true).redirectOutput(output.toFile());
        script.environment().put("TMPDIR", root.resolve("tmp").toString());
        Process process = script.start();
        Due.holds(name + ": it comes to an end", process.waitFor(MINUTES, TimeUnit.MINUTES));
        process.destroyForcibly().waitFor();
        exitCode = process.exitValue();
        printed.addAll(Files.readAllLines(output, StandardCharsets.UTF_8));
        Files.delete(output);
        Due.holds(name + ": it leaves no file behind", files().equals(ahead));
        return this;
    }

    SmallProject passes() {
        return ends(0, "all tests pass");
    }

    SmallProject fails() {
        return ends(1, "tests failed");
    }

    private SmallProject ends(int code, String word) {
        Due.is(name + ": exit code", exitCode, code);
        Due.holds(name + ": the last line is '" + word + "' of " + printed,
                !printed.isEmpty() && printed.get(printed.size() - 1).equals(word));
        return this;
    }

    /** Those that were run, and no others, in this order. */
    SmallProject ran(String... tests) {
        List<String> due = Stream.of(tests).map(test -> "this is " + test)
                .collect(Collectors.toList());
        List<String> was = printed.stream().filter(due::contains).collect(Collectors.toList());
        long all = printed.stream().filter(line -> line.startsWith("this is ")
                && !line.equals(IS_NO_JAVA)).count();
        Due.holds(name + ": ran " + was + ", due are " + due, was.equals(due) && all == due.size());
        return this;
    }

    void clear() throws IOException {
        List<Path> all = files();
        Collections.reverse(all);
        for (Path path : all) {
            Files.delete(path);
        }
    }

    private List<Path> files() throws IOException {
        try (Stream<Path> found = Files.walk(root)) {
            return found.sorted().collect(Collectors.toList());
        }
    }
}
