import java.io.IOException;
import java.lang.reflect.Field;
import java.lang.reflect.Method;
import java.lang.reflect.Modifier;
import java.nio.file.DirectoryStream;
import java.nio.file.Files;
import java.nio.file.Path;
import java.util.ArrayList;
import java.util.HashMap;
import java.util.List;
import java.util.Map;
import java.util.Set;
import java.util.TreeSet;
import java.util.regex.Matcher;
import java.util.regex.Pattern;

/** README.md: what it shows of the class's use holds as it is printed, and its tables are whole. */
public final class ReadmeTest {
    private static final Path README = Path.of("README.md");
    private static final Path TESTS = Path.of("src/test/java");

    /** A line that is not of one of these forms could stand there without ever being done. */
    private static final Pattern NEW_OBJECT =
            Pattern.compile("GameNet net = new GameNet\\(\\); +// .+");
    private static final Pattern CALL =
            Pattern.compile("net\\.(\\w+)\\(([^()]*)\\); +// (-?\\d+)(: .+)?");

    private static final Pattern CONSTANT = Pattern.compile("`([A-Z]+)` \\((-?\\d+)\\)");
    private static final Pattern SIGNATURE = Pattern.compile("\\| `(\\w+)\\(([^()]*)\\)` \\| .+ \\|");
    private static final Pattern TEST_ROW = Pattern.compile("\\| `(\\w+Test)` \\| .+ \\|");

    private static final Map<String, Method> METHODS = new HashMap<>();

    public static void main(String[] args) throws Exception {
        List<String> page = Files.readAllLines(README);
        for (Method method : GameNet.class.getDeclaredMethods()) {
            if (Modifier.isPublic(method.getModifiers())) {
                METHODS.put(method.getName(), method);
            }
        }
        callsAnswerAsPrinted(page);
        tableOfCallsIsTheFace(page);
        constantsAreAsPrinted(page);
        tableOfTestsIsTheFolder(page);
        Due.end();
    }

    private static void callsAnswerAsPrinted(List<String> page) throws Exception {
        Set<String> shown = new TreeSet<>();
        GameNet net = null;
        for (String line : linesOfJava(page)) {
            Matcher call = CALL.matcher(line);
            if (net == null && NEW_OBJECT.matcher(line).matches()) {
                net = new GameNet();
            } else if (net == null || !call.matches() || !METHODS.containsKey(call.group(1))) {
                Due.holds("a call that can be done, and its answer: " + line, false);
            } else {
                shown.add(call.group(1));
                Due.is(line, answer(net, METHODS.get(call.group(1)), call.group(2)),
                        Integer.parseInt(call.group(3)));
            }
        }
        Due.holds("every call is shown: " + shown, shown.equals(METHODS.keySet()));
    }

    private static List<String> linesOfJava(List<String> page) {
        List<String> lines = new ArrayList<>();
        boolean inside = false;
        for (String line : page) {
            if (line.startsWith("```")) {
                inside = line.equals("```java");
            } else if (inside && !line.isEmpty()) {
                lines.add(line);
            }
        }
        return lines;
    }

    private static int answer(GameNet net, Method method, String written) throws Exception {
        String[] words = wordsOf(written);
        Class<?>[] kinds = method.getParameterTypes();
        if (words.length != kinds.length) {
            throw new IllegalArgumentException(method + " does not take: " + written);
        }
        Object[] values = new Object[words.length];
        for (int at = 0; at < words.length; at++) {
            values[at] = kinds[at] == boolean.class ? asBoolean(words[at])
                    : (Object) Integer.parseInt(words[at]);
        }
        return (Integer) method.invoke(net, values);
    }

    private static String[] wordsOf(String written) {
        return written.isEmpty() ? new String[0] : written.split(", ");
    }

    private static Object asBoolean(String word) {
        if (!word.equals("true") && !word.equals("false")) {
            throw new IllegalArgumentException("neither true nor false: " + word);
        }
        return word.equals("true");
    }

    private static void tableOfCallsIsTheFace(List<String> page) {
        Set<String> listed = new TreeSet<>();
        for (String line : page) {
            Matcher row = SIGNATURE.matcher(line);
            if (row.matches()) {
                listed.add(row.group(1) + kindsOf(wordsOf(row.group(2))));
            }
        }
        Set<String> face = new TreeSet<>();
        for (Method method : METHODS.values()) {
            List<String> kinds = new ArrayList<>();
            for (Class<?> kind : method.getParameterTypes()) {
                kinds.add(kind.getName());
            }
            face.add(method.getName() + kinds);
        }
        Due.holds("the table lists the class's calls: " + listed, listed.equals(face));
    }

    private static List<String> kindsOf(String[] parameters) {
        List<String> kinds = new ArrayList<>();
        for (String parameter : parameters) {
            kinds.add(parameter.split(" ")[0]);
        }
        return kinds;
    }

    private static void constantsAreAsPrinted(List<String> page) throws Exception {
        Set<String> named = new TreeSet<>();
        Matcher found = CONSTANT.matcher(String.join("\n", page));
        while (found.find()) {
            named.add(found.group(1));
            Due.is(found.group(), GameNet.class.getField(found.group(1)).getInt(null),
                    Integer.parseInt(found.group(2)));
        }
        Set<String> face = new TreeSet<>();
        for (Field field : GameNet.class.getFields()) {
            face.add(field.getName());
        }
        Due.holds("every constant is told: " + named, named.equals(face));
    }

    private static void tableOfTestsIsTheFolder(List<String> page) throws IOException {
        Set<String> listed = new TreeSet<>();
        for (String line : page) {
            Matcher row = TEST_ROW.matcher(line);
            if (row.matches()) {
                listed.add(row.group(1) + ".java");
            }
        }
        Set<String> there = new TreeSet<>();
        try (DirectoryStream<Path> files = Files.newDirectoryStream(TESTS, "*Test.java")) {
            for (Path file : files) {
                there.add(file.getFileName().toString());
            }
        }
        Due.holds("the table lists the tests: " + listed, listed.equals(there));
    }
}
