import java.io.IOException;
import java.lang.management.ManagementFactory;
import java.lang.reflect.Field;
import java.lang.reflect.Method;
import java.lang.reflect.Modifier;
import java.nio.file.Files;
import java.nio.file.Path;
import java.util.Arrays;
import java.util.TreeSet;
import java.util.function.IntConsumer;

/** The face of the class, the rules of LANGUAGE.md that a program can look after, and the room that a run takes. */
public final class RulesTest {
    private static final String SOURCE = "src/main/java/TruthFilters.java";

    public static void main(String[] args) throws IOException {
        face();
        ownClasses();
        source();
        room();
        Expect.end();
    }

    /** The methods as the document writes them, without the names of their parameters. */
    private static TreeSet<String> promisedMethods() throws IOException {
        TreeSet<String> methods = new TreeSet<>();
        for (String line : Document.read().face()) {
            if (line.matches("public (int|double) .*")) {
                methods.add(Document.withoutNames(line.replaceFirst("public ", "")));
            }
        }
        return methods;
    }

    private static void face() throws IOException {
        Class<?> face = TruthFilters.class;
        Expect.that("the class", Modifier.toString(face.getModifiers()), "public final");
        Expect.that("constructors", Arrays.toString(face.getDeclaredConstructors()), "[public TruthFilters()]");
        TreeSet<String> methods = new TreeSet<>();
        for (Method method : face.getDeclaredMethods()) {
            if (!Modifier.isPrivate(method.getModifiers())) {
                Expect.that("modifiers", Modifier.toString(method.getModifiers()), "public");
                methods.add(Document.signature(method));
            }
        }
        Expect.that("the face", methods, promisedMethods());
        TreeSet<String> fields = new TreeSet<>();
        for (Field field : face.getDeclaredFields()) {
            if (!Modifier.isPrivate(field.getModifiers())) {
                fields.add(field.toString());
            }
        }
        Expect.that("the constants", fields.toString(), "[public static final int TruthFilters.NONE, "
                + "public static final int TruthFilters.UNKNOWN_CELL]");
    }

    private static void ownClasses() throws IOException {
        TreeSet<String> faceNames = new TreeSet<>();
        for (String method : promisedMethods()) {
            faceNames.add(method.substring(method.indexOf(' ') + 1, method.indexOf('(')));
        }
        Class<?>[] inside = TruthFilters.class.getDeclaredClasses();
        Expect.that("at most twelve classes", inside.length <= 11, true);
        for (Class<?> own : inside) {
            Expect.that(own + " is private and static", Modifier.isPrivate(own.getModifiers())
                    && Modifier.isStatic(own.getModifiers()), true);
            Expect.that(own + " has at most 20 fields", own.getDeclaredFields().length <= 20, true);
            for (Method method : own.getDeclaredMethods()) {
                Expect.that(method + " bears a name of the face", faceNames.contains(method.getName()), false);
            }
        }
        for (Method method : TruthFilters.class.getDeclaredMethods()) {
            Expect.that(method + " has at most seven parameters", method.getParameterCount() <= 7, true);
            if (Modifier.isPrivate(method.getModifiers())) {
                Expect.that(method + " bears a name of the face", faceNames.contains(method.getName()), false);
            }
        }
    }

    private static void source() throws IOException {
        String text = Files.readString(Path.of(SOURCE));
        Expect.that("only signs 1 to 127", text.chars().allMatch(c -> c > 0 && c < 128), true);
        String code = text.replaceAll("(?s)/\\*.*?\\*/", "").replaceAll("//[^\n]*", "")
                .replaceAll("\"[^\"\n]*\"", "\"\"");
        String[] forbidden = {"import", "package", "->", "::", "\\btry\\b", "\\bcatch\\b", "\\bfinally\\b",
            "\\bsynchronized\\b", "\\bassert\\b", "\\binstanceof\\b", "\\bnative\\b", "\\bvolatile\\b", "\\bObject\\b",
            "\\bThread\\b", "System\\.(?!arraycopy)", "Exact\\b", "\\bequals\\b", "\\bhashCode\\b", "\\btoString\\b",
            "static \\{", "\\bvar\\b", "\\bprotected\\b", "static (?!final)[\\w\\[\\]]+ \\w+ ?[=;]", "\"\" ?\\+"};
        for (String pattern : forbidden) {
            Expect.that("the program has " + pattern,
                    java.util.regex.Pattern.compile(pattern).matcher(code).find(), false);
        }
        for (String line : code.split("\n")) {
            if (line.contains("throw ")) {
                Expect.that(line, line.matches(" +throw new (IndexOutOfBounds|IllegalArgument|IllegalState)"
                        + "Exception\\(\"\"\\);"), true);
            }
        }
        int longest = 0;
        int length = 0;
        for (String line : text.split("\n")) {
            length = line.matches(" {4}( {4})?}") ? 0 : length + 1;
            longest = Math.max(longest, length);
        }
        Expect.that("methods stay short", longest <= 60, true);
    }

    /** What 512 calls take, in bytes. The room of a run is 7.3 million elements, some 30 million bytes. */
    private static long bytes(IntConsumer call) {
        com.sun.management.ThreadMXBean threads =
                (com.sun.management.ThreadMXBean) ManagementFactory.getThreadMXBean();
        long before = threads.getCurrentThreadAllocatedBytes();
        for (int i = 0; i < 512; i++) {
            call.accept(i);
        }
        return threads.getCurrentThreadAllocatedBytes() - before;
    }

    private static void room() {
        TruthFilters x = Expect.sample();
        Expect.put(x, 0, "!".repeat(18) + "a=99");
        Expect.put(x, 1, "!".repeat(19) + "a=b");
        Expect.put(x, 2, "a=1|b=2|c>10|d<5|a<b|c>d|!a=9");
        x.keep(0);
        IntConsumer[] dear = {i -> new TruthFilters(), i -> x.combine(3, 0, 1, 1), i -> x.update(0, 0, 0, 1),
            i -> x.certain(0, 0, 2), i -> x.letter(2, i), i -> x.goBack(0), i -> x.join(0, 0, i),
            i -> x.group(0, 0, i, 1), i -> x.firstError(), i -> x.rows(0, 2, i % 3, 1), i -> x.remove(0, 2)};
        for (int i = 0; i < dear.length; i++) {
            long bytes = bytes(dear[i]);
            Expect.that("512 calls of kind " + i + " take " + bytes + " bytes, too many", bytes < 8_000_000, true);
        }
    }
}
