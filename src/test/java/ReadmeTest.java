import java.io.IOException;
import java.net.URL;
import java.net.URLClassLoader;
import java.nio.file.Files;
import java.nio.file.Path;
import java.util.ArrayList;
import java.util.List;
import java.util.TreeSet;
import java.util.regex.Matcher;
import java.util.regex.Pattern;
import java.util.stream.Collectors;
import java.util.stream.Stream;
import javax.tools.JavaCompiler;
import javax.tools.ToolProvider;

/** README.md: its example answers what it says, and it tells every call, every test and files that are there. */
public final class ReadmeTest {
    private static final Path TESTS = Path.of("src/test/java");
    /** A call, what it answers and why, as a line of the example tells them. */
    private static final Pattern CALL = Pattern.compile("(int \\w+ = )?(hall\\.\\w+\\(.*?\\)); +// (\\w+): \\S.*");

    private ReadmeTest() {
    }

    public static void main(String[] args) throws Exception {
        String readme = Files.readString(Path.of("README.md"));
        exampleAnswersAsTold(readme);
        everyCallIsTold(readme);
        everyTestIsTold(readme);
        filesAreThere(readme);
        Check.end("ReadmeTest");
    }

    private static void exampleAnswersAsTold(String readme) throws Exception {
        List<String> lines = readme.substring(readme.indexOf("```java\n") + 8).split("\n```")[0].lines()
                .collect(Collectors.toList());
        Check.due("the example begins with a hall", "HiringHall hall = new HiringHall();", lines.remove(0));
        List<String> calls = new ArrayList<>();
        List<String> wanted = new ArrayList<>();
        for (String line : lines) {
            Matcher call = CALL.matcher(line);
            Check.due("a call and its answer: " + line, true, call.matches());
            calls.add(call.group(2) + " // " + wanted.size());
            wanted.add(call.group(3));
        }
        List<?> got = answers(lines);
        Check.due("the example has calls", true, wanted.size() > 10);
        Check.due("the calls that answer", wanted.size(), got.size());
        for (int i = 0; i < got.size(); i++) {
            Check.due("README.md: " + calls.get(i), wanted.get(i), got.get(i));
        }
    }

    private static List<?> answers(List<String> lines) throws Exception {
        Path directory = Files.createTempDirectory("readme");
        Path source = directory.resolve("ReadmeExample.java");
        Files.writeString(source, program(lines));
        JavaCompiler compiler = ToolProvider.getSystemJavaCompiler();
        int failed = compiler.run(null, null, null, "-cp", System.getProperty("java.class.path"), "-d",
                directory.toString(), source.toString());
        Check.due("the example compiles", 0, failed);
        try (URLClassLoader loader = new URLClassLoader(new URL[] {directory.toUri().toURL()})) {
            return (List<?>) loader.loadClass("ReadmeExample").getMethod("answers").invoke(null);
        } finally {
            deleteAll(directory);
        }
    }

    /** The example as it stands, each line followed by one that notes its answer. */
    private static String program(List<String> lines) {
        StringBuilder text = new StringBuilder("import java.util.*;\npublic final class ReadmeExample {\n"
                + "public static List<String> answers() {\nList<String> answers = new ArrayList<>();\n"
                + "HiringHall hall = new HiringHall();\n");
        for (String line : lines) {
            Matcher call = CALL.matcher(line);
            if (call.matches() && call.group(1) != null) {
                String name = call.group(1).split(" ")[1];
                text.append(line).append("\nanswers.add(String.valueOf(").append(name).append("));\n");
            } else if (call.matches()) {
                text.append("try { answers.add(String.valueOf(").append(call.group(2)).append(")); }\n")
                        .append("catch (RuntimeException e) { answers.add(e.getClass().getSimpleName()); }\n");
            }
        }
        return text.append("return answers;\n}\n}\n").toString();
    }

    private static void deleteAll(Path directory) throws IOException {
        try (Stream<Path> files = Files.list(directory)) {
            for (Path file : files.collect(Collectors.toList())) {
                Files.delete(file);
            }
        }
        Files.delete(directory);
    }

    /** The tables hold the calls of the document, in its order, with the names of their arguments. */
    private static void everyCallIsTold(String readme) {
        Matcher face = Pattern.compile("(?m)^    public (?:int|boolean) (\\w+)\\((.*?)\\)").matcher(Document.text());
        List<String> want = new ArrayList<>();
        while (face.find()) {
            want.add(face.group(1) + "(" + face.group(2).replaceAll("(int|boolean) ", "") + ")");
        }
        Matcher rows = Pattern.compile("(?m)^\\| `(.*?)` *\\|").matcher(readme);
        List<String> got = new ArrayList<>();
        while (rows.find()) {
            got.add(rows.group(1));
        }
        Check.due("the document has 26 calls", 26, want.size());
        Check.due("the calls of the tables", String.join("\n", want), String.join("\n", got));
    }

    private static void everyTestIsTold(String readme) throws IOException {
        TreeSet<String> want = new TreeSet<>();
        try (Stream<Path> files = Files.list(TESTS)) {
            files.map(file -> file.getFileName().toString()).filter(name -> name.endsWith("Test.java"))
                    .forEach(name -> want.add(name.replace(".java", "")));
        }
        TreeSet<String> got = new TreeSet<>(named("`(\\w+Test)`", readme));
        Check.due("the tests told", String.join(" ", want), String.join(" ", got));
        List<String> helpers = named("`(Check|Halls|Ranges|Look|Document|HallModel)`", readme);
        Check.due("helpers are told", true, helpers.size() >= 6);
        for (String helper : helpers) {
            Check.due("there is " + helper, true, Files.exists(TESTS.resolve(helper + ".java")));
        }
    }

    private static void filesAreThere(String readme) {
        List<String> files = named("((?:\\.\\./shared|src/main)/[\\w./]*\\w)", readme);
        Check.due("files are told", true, files.size() >= 4);
        for (String file : files) {
            Check.due("there is " + file, true, Files.exists(Path.of(file)));
        }
        Check.due("the tests are run by", true, Files.isExecutable(Path.of(".ci/run")));
    }

    private static List<String> named(String pattern, String readme) {
        List<String> named = new ArrayList<>();
        Matcher matcher = Pattern.compile(pattern).matcher(readme);
        while (matcher.find()) {
            named.add(matcher.group(1));
        }
        return named;
    }
}
