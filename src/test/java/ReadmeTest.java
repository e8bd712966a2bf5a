import java.io.IOException;
import java.net.URL;
import java.net.URLClassLoader;
import java.nio.file.DirectoryStream;
import java.nio.file.Files;
import java.nio.file.Path;
import java.util.ArrayList;
import java.util.List;
import java.util.regex.Matcher;
import java.util.regex.Pattern;
import javax.tools.ToolProvider;

/** README.md: each line of its example answers what stands behind it, and its table names each test. */
public final class ReadmeTest {
    private static final String BEGIN = "```java";
    private static final String END = "```";
    /** A call, and behind it what it answers, and perhaps some words more. */
    private static final Pattern ANSWERED = Pattern.compile("(x\\..*\\));\\s+// ([\\w.-]+)(:.*)?");
    private static final Check check = new Check();

    public static void main(String[] args) throws IOException, ReflectiveOperationException {
        String page = Files.readString(Path.of("README.md"));
        List<String> example = example(page);
        List<String> calls = new ArrayList<>();
        String source = source(example, calls);
        List<?> answers = answers(source);
        for (int i = 0; i < calls.size(); i++) {
            check.due(calls.get(i), String.valueOf(answers.get(2 * i)), String.valueOf(answers.get(2 * i + 1)));
        }
        check.due("some calls in the example", calls.size() > 20, true);
        namesEachTest(page);
        check.end();
    }

    private static List<String> example(String page) {
        int begin = page.indexOf(BEGIN) + BEGIN.length();
        int end = page.indexOf(END, begin);
        return page.substring(begin, end).lines().toList();
    }

    /** A class whose answers() are those of the example's calls, each with the one that stands behind it. */
    private static String source(List<String> example, List<String> calls) {
        StringBuilder source = new StringBuilder("public final class Example {\n"
                + "    public static java.util.List<Integer> answers() {\n"
                + "        java.util.List<Integer> all = new java.util.ArrayList<>();\n");
        for (String line : example) {
            Matcher answered = ANSWERED.matcher(line);
            if (answered.matches()) {
                calls.add(line);
                source.append("all.add(").append(answered.group(1)).append(");\n");
                source.append("all.add(").append(answered.group(2)).append(");\n");
            } else {
                check.due("a call without an answer: " + line, line.startsWith("x."), false);
                source.append(line).append('\n');
            }
        }
        return source.append("return all;\n}\n}\n").toString();
    }

    private static List<?> answers(String source) throws IOException, ReflectiveOperationException {
        Path directory = Files.createTempDirectory("readme");
        Path file = Files.writeString(directory.resolve("Example.java"), source);
        Path built = directory.resolve("Example.class");
        try {
            int failed = ToolProvider.getSystemJavaCompiler().run(null, null, null, "-encoding", "UTF-8",
                    "-cp", System.getProperty("java.class.path"), "-d", directory.toString(), file.toString());
            check.due("the example compiles", failed, 0);
            try (URLClassLoader loader = new URLClassLoader(new URL[] {directory.toUri().toURL()})) {
                return (List<?>) loader.loadClass("Example").getMethod("answers").invoke(null);
            }
        } finally {
            Files.deleteIfExists(file);
            Files.deleteIfExists(built);
            Files.deleteIfExists(directory);
        }
    }

    private static void namesEachTest(String page) throws IOException {
        Path tests = Path.of("src/test/java");
        int named = 0;
        try (DirectoryStream<Path> files = Files.newDirectoryStream(tests, "*Test.java")) {
            for (Path file : files) {
                String name = file.getFileName().toString().replace(".java", "");
                check.due("the page names " + name, page.contains("| `" + name + "` |"), true);
                named++;
            }
        }
        check.due("no test is named that is not there", page.split("\n\\| `", -1).length - 1, named);
    }
}
