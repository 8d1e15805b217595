import java.io.File;
import java.io.IOException;
import java.net.URL;
import java.net.URLClassLoader;
import java.nio.file.Files;
import java.nio.file.Path;
import java.util.ArrayList;
import java.util.Comparator;
import java.util.List;
import java.util.TreeSet;
import java.util.function.Supplier;
import java.util.regex.Matcher;
import java.util.regex.Pattern;
import java.util.stream.Stream;

/** README.md: its example answers what it says there, and its tables name each call and each test. */
public final class ReadmeTest {
    private static final Pattern ANSWERED = Pattern.compile("(x\\..*\\)); *// (-?\\d+|TruthFilters\\.\\w+): .*");
    private static final Pattern CALL = Pattern.compile("`(\\w+\\([\\w, ]*\\))`");

    public static void main(String[] args)
            throws IOException, InterruptedException, ReflectiveOperationException {
        List<String> lines = Files.readAllLines(Path.of("README.md"));
        example(between(lines, "```java", "```"));
        calls(between(lines, "| call | what it does |", ""));
        tests(between(lines, "| test | what it looks at |", ""));
        Expect.end();
    }

    private static List<String> between(List<String> lines, String first, String last) {
        int start = lines.indexOf(first);
        Expect.that("README.md has the line " + first, start >= 0, true);
        List<String> rest = lines.subList(start + 1, lines.size());
        int end = rest.indexOf(last);
        return rest.subList(0, end < 0 ? rest.size() : end);
    }

    /** Compiles the example as it stands, with each answer kept beside the one that is told. */
    private static void example(List<String> lines)
            throws IOException, InterruptedException, ReflectiveOperationException {
        StringBuilder source = new StringBuilder("public final class Example implements "
                + "java.util.function.Supplier<java.util.List<?>> { public java.util.List<?> get() { "
                + "java.util.List<Object> answers = new java.util.ArrayList<>();\n");
        List<String> asked = new ArrayList<>();
        for (String line : lines) {
            Matcher answered = ANSWERED.matcher(line);
            if (answered.matches()) {
                asked.add(answered.group(1));
                source.append("answers.add(").append(answered.group(1)).append("); answers.add(")
                        .append(answered.group(2)).append(");\n");
            } else {
                Expect.that("a comment tells an answer: " + line, line.contains("//"), false);
                source.append(line).append('\n');
            }
        }
        List<?> answers = answersOf(source.append("return answers; } }\n").toString());
        Expect.that("answers that the example tells", answers.size() > 0, true);
        Expect.that("answers of the example", answers.size(), 2 * asked.size());
        for (int i = 0; i + 1 < answers.size(); i += 2) {
            Expect.that("README.md: " + asked.get(i / 2), answers.get(i), answers.get(i + 1));
        }
    }

    private static List<?> answersOf(String source)
            throws IOException, InterruptedException, ReflectiveOperationException {
        Path place = Files.createTempDirectory("readme");
        try {
            Path file = Files.writeString(place.resolve("Example.java"), source);
            int failed = new ProcessBuilder("javac", "-proc:none", "-cp", System.getProperty("java.class.path"),
                    "-d", place.toString(), file.toString()).inheritIO().start().waitFor();
            Expect.that("the example compiles", failed, 0);
            if (failed != 0) {
                return List.of();
            }
            try (URLClassLoader loader = new URLClassLoader(new URL[] {place.toUri().toURL()})) {
                Object example = loader.loadClass("Example").getConstructor().newInstance();
                return (List<?>) ((Supplier<?>) example).get();
            }
        } finally {
            remove(place);
        }
    }

    private static void remove(Path place) throws IOException {
        try (Stream<Path> paths = Files.walk(place)) {
            paths.sorted(Comparator.reverseOrder()).map(Path::toFile).forEach(File::delete);
        }
    }

    /** The calls of the table are those of the document's face, with the same names of their parameters. */
    private static void calls(List<String> lines) throws IOException {
        TreeSet<String> told = new TreeSet<>();
        for (String line : lines) {
            Matcher call = CALL.matcher(line);
            while (call.find()) {
                told.add(call.group(1));
            }
        }
        TreeSet<String> due = new TreeSet<>();
        for (String line : Document.read().face()) {
            if (line.matches("public (int|double) .*")) {
                due.add(line.replaceFirst("public \\w+ ", "").replaceFirst("\\).*", ")").replaceAll("\\bint ", ""));
            }
        }
        Expect.that("the calls that README.md tells", told, due);
    }

    private static void tests(List<String> lines) throws IOException {
        TreeSet<String> told = new TreeSet<>();
        for (String line : lines) {
            if (line.startsWith("| `")) {
                told.add(line.substring(3, line.indexOf('`', 3)) + ".java");
            }
        }
        TreeSet<String> due = new TreeSet<>();
        try (Stream<Path> files = Files.list(Path.of("src/test/java"))) {
            files.map(file -> file.getFileName().toString()).filter(name -> name.endsWith("Test.java"))
                    .forEach(due::add);
        }
        Expect.that("the tests that README.md tells", told, due);
    }
}
