import java.io.IOException;
import java.lang.reflect.Method;
import java.nio.file.Files;
import java.nio.file.Path;
import java.util.ArrayList;
import java.util.Arrays;
import java.util.LinkedHashMap;
import java.util.List;
import java.util.Map;
import java.util.stream.Collectors;

/** The document by its sections, and which of its words have a test. */
final class Document {
    private static final Path PLACE = Path.of("../shared/DOC.md");
    private static final String FACE = "The public face";
    private static final String UNPROMISED = "Not promised";

    private final Map<String, String> texts = new LinkedHashMap<>();
    private final Map<String, boolean[]> told = new LinkedHashMap<>();
    private String section = "";

    private Document() {
    }

    static Document read() throws IOException {
        Document document = new Document();
        String name = "";
        for (String line : Files.readAllLines(PLACE)) {
            if (line.startsWith("#")) {
                name = line.replaceFirst("^#+ ", "");
                document.texts.put(name, "");
            } else {
                document.texts.merge(name, line + "\n", String::concat);
            }
        }
        document.texts.forEach((title, text) -> document.told.put(title, new boolean[text.length()]));
        return document;
    }

    /** The lines of the public face, without their semicolons. */
    List<String> face() {
        List<String> lines = new ArrayList<>();
        for (String line : texts.get(FACE).split("\n")) {
            if (line.startsWith("    public ")) {
                lines.add(line.replace(";", "").trim());
            }
        }
        return lines;
    }

    /** A method as the document writes it, without the names of the parameters. */
    static String signature(Method method) {
        String thrown = Arrays.stream(method.getExceptionTypes()).map(Class::getSimpleName)
                .collect(Collectors.joining(", "));
        return method.getReturnType() + " " + method.getName() + "("
                + Arrays.stream(method.getParameterTypes()).map(Class::getName).collect(Collectors.joining(", "))
                + ")" + (thrown.isEmpty() ? "" : " throws " + thrown);
    }

    static String withoutNames(String signature) {
        return signature.replaceAll("\\b(int|double) \\w+(?=[,)])", "$1");
    }

    /** Goes on with a section; the signature of a promise must be one of the class. */
    void section(String name) {
        section = name;
        Expect.about(name);
        Expect.that("the document has the section", texts.containsKey(name), true);
        String text = texts.getOrDefault(name, "");
        int end = text.indexOf("`: ");
        if (name.startsWith("Promise ") && end >= 0) {
            int start = text.indexOf('`') + 1;
            Expect.that("the class has what the promise is about",
                    isInFace(withoutNames(text.substring(start, end))), true);
            aside(text.substring(start, end));
        }
    }

    private static boolean isInFace(String signature) {
        return signature.equals("TruthFilters()") && TruthFilters.class.getConstructors().length == 1
                || Arrays.stream(TruthFilters.class.getMethods()).anyMatch(m -> signature(m).equals(signature));
    }

    /** Tests a sentence, or a part of it, which must stand in the section; the test has to ask something. */
    void holds(String sentence, Runnable test) {
        aside(sentence);
        Expect.about(section + ", " + sentence);
        int before = Expect.asked();
        try {
            test.run();
        } catch (RuntimeException e) {
            Expect.that("the test", e.toString(), "no exception");
        }
        Expect.that("the test asks something", Expect.asked() > before, true);
        Expect.about(section);
    }

    /** Words that ask nothing of an answer, or that stand for what other tests ask. */
    void aside(String words) {
        String text = texts.getOrDefault(section, "");
        boolean[] marks = told.getOrDefault(section, new boolean[0]);
        int at = text.indexOf(words);
        while (at >= 0 && marks[at]) {
            at = text.indexOf(words, at + 1);
        }
        Expect.that("the section says: " + words, at >= 0, true);
        if (at >= 0) {
            Arrays.fill(marks, at, at + words.length(), true);
        }
    }

    /** Answers for every word that no test has named. */
    void end() {
        for (String name : texts.keySet()) {
            Expect.about(name);
            if (!name.equals(UNPROMISED)) {
                Expect.that("words without a test", untold(texts.get(name), told.get(name)), "");
            }
        }
        Expect.about("");
    }

    private static String untold(String text, boolean[] marks) {
        StringBuilder rest = new StringBuilder();
        for (int i = 0; i < text.length(); i++) {
            rest.append(marks[i] ? ' ' : text.charAt(i));
        }
        return rest.toString().replaceAll("[^A-Za-z0-9]+", " ").trim();
    }
}
