import java.util.Arrays;
import java.util.Random;

/** All promises together: long random runs of calls, each answered by the program and by the model. */
public final class ModelTest {
    private static final int RUNS = 1500;
    private static final int CALLS = 512;
    private static final int[] KINDS = new int[26];

    private final TruthFilters program = new TruthFilters();
    private final Model model = new Model();
    private final Random random;
    private final String name;
    private int calls = 0;

    private ModelTest(int seed) {
        random = new Random(seed);
        name = "run " + seed;
    }

    public static void main(String[] args) {
        for (int seed = 0; seed < RUNS; seed++) {
            new ModelTest(seed).run();
        }
        shortStrings();
        twoUnknownCells();
        Expect.that("each call was made often", Arrays.stream(KINDS).min().getAsInt() > 1000, true);
        Expect.end();
    }

    private void run() {
        while (calls < CALLS) {
            int dice = random.nextInt(100);
            if (dice < 12) {
                defineSome();
            } else if (dice < 35) {
                same(0, number(2), value(), value(), value(), value());
            } else {
                int kind = random.nextInt(26);
                same(kind, arguments(kind));
            }
        }
    }

    /** All texts of up to four signs of the grammar, and a stranger. */
    private static void shortStrings() {
        String signs = "ad=<?019!()&|x";
        long all = (long) Math.pow(signs.length() + 1, 4);
        for (long number = 0; number < all; number++) {
            StringBuilder text = new StringBuilder();
            for (long rest = number; rest > 0; rest /= signs.length() + 1) {
                int digit = (int) (rest % (signs.length() + 1));
                text.append(digit == 0 ? "" : signs.charAt(digit - 1));
            }
            TruthFilters program = new TruthFilters();
            Model model = new Model();
            for (int i = 0; i < text.length(); i++) {
                program.append(text.charAt(i));
                model.append(text.charAt(i));
            }
            Expect.that("first error of " + text, program.firstError(), model.firstError());
            Expect.that("define of " + text, Expect.outcome(() -> program.define(0)),
                    Expect.outcome(() -> model.define(0)));
        }
    }

    /** Filters that hold for all but a few of the pairs of values of two cells, where values lie close together. */
    private static void twoUnknownCells() {
        Random random = new Random(7);
        String[] comparisons = {"a<b", "a>b", "a=b"};
        for (int i = 0; i < 3000; i++) {
            int low = random.nextInt(5) == 0 ? 0 : random.nextInt(97);
            int high = Math.min(low + 1 + random.nextInt(4), 99);
            String pair = comparisons[random.nextInt(3)];
            String[] tests = {"a>" + low, "b>c", "a<" + high, "b<d", pair, "b<" + high, "a>c", "!" + pair};
            StringBuilder text = new StringBuilder("!(");
            for (int k = 0; k < tests.length; k++) {
                if (k == 4 || random.nextInt(3) > 0) {
                    text.append(text.length() > 2 ? random.nextInt(8) == 0 ? "|" : "&" : "").append(tests[k]);
                }
            }
            text.append(')');
            TruthFilters program = new TruthFilters();
            Model model = new Model();
            for (int k = 0; k < text.length(); k++) {
                program.append(text.charAt(k));
                model.append(text.charAt(k));
            }
            Expect.that("define of " + text, program.define(0), model.define(0));
            program.add(0, -1, -1, low, high);
            model.add(0, -1, -1, low, high);
            Expect.that("certain of " + text, program.certain(0, 0, 0), model.certain(0, 0, 0));
        }
    }

    private void defineSome() {
        same(10);
        String text = filterText(random.nextInt(5));
        if (random.nextInt(12) == 0) {
            int at = random.nextInt(text.length() + 1);
            text = text.substring(0, at) + "ad=<>?019!()&|~".charAt(random.nextInt(15)) + text.substring(at);
        }
        if (random.nextInt(20) == 0) {
            text = text.substring(random.nextInt(2));
        }
        for (int i = 0; i < text.length(); i++) {
            same(9, text.charAt(i));
        }
        if (random.nextInt(6) == 0) {
            same(11);
        }
        same(3, number(6));
    }

    private String filterText(int depth) {
        int dice = depth == 0 ? 0 : random.nextInt(10);
        if (dice < 3) {
            return testText();
        }
        String one = filterText(depth - 1);
        return switch (dice) {
            case 3 -> "!" + testText();
            case 4 -> "!(" + one + ")";
            case 5 -> "(" + one + ")";
            case 6 -> one + "&" + filterText(depth - 1);
            case 7 -> one + "|" + filterText(depth - 1);
            case 8 -> "(" + one + ")&(" + filterText(depth - 1) + ")";
            default -> one + "|(" + filterText(depth - 1) + ")";
        };
    }

    private String testText() {
        char column = (char) ('a' + random.nextInt(4));
        char sign = "=<>?".charAt(random.nextInt(4));
        if (sign == '?') {
            return column + "?";
        }
        if (random.nextInt(3) == 0) {
            return "" + column + sign + (char) ('a' + random.nextInt(4));
        }
        return "" + column + sign + knownValue();
    }

    private int knownValue() {
        return switch (random.nextInt(8)) {
            case 0 -> random.nextInt(100);
            case 1 -> 97 + random.nextInt(3);
            default -> random.nextInt(5);
        };
    }

    private int value() {
        return random.nextInt(3) == 0 ? -1 : random.nextInt(60) == 0 ? strange() : knownValue();
    }

    /** A number below the count; rarely another one. */
    private int number(int count) {
        return random.nextInt(40) == 0 ? strange() : random.nextInt(Math.max(count, 1));
    }

    private int strange() {
        int[] numbers = {-1, -2, -3, 2, 3, 4, 5, 6, 7, 8, 16, 32, 100, 1000, Integer.MAX_VALUE, Integer.MIN_VALUE};
        return numbers[random.nextInt(numbers.length)];
    }

    private int row(int table) {
        return number(table == 0 || table == 1 ? model.count(table) : 1);
    }

    private int slotOrNone() {
        return random.nextInt(4) == 0 ? -2 : number(6);
    }

    private int[] arguments(int kind) {
        int table = number(2);
        return switch (kind) {
            case 0 -> new int[] {table, value(), value(), value(), value()};
            case 1 -> new int[] {table, row(table), number(4), value()};
            case 2 -> new int[] {table, row(table)};
            case 3, 16 -> new int[] {number(6), number(5)};
            case 4 -> new int[] {number(6), number(6), number(6), number(3)};
            case 5 -> new int[] {table, slotOrNone()};
            case 6, 25 -> new int[] {table, number(6)};
            case 7 -> new int[] {table, number(6), number(4), value()};
            case 8 -> new int[] {number(2)};
            case 9 -> new int[] {33 + number(94)};
            case 12 -> new int[] {};
            case 13 -> new int[] {number(2)};
            case 14 -> new int[] {table, row(table), number(4)};
            case 15 -> new int[] {table, number(4), number(7)};
            case 17 -> new int[] {table, number(4), number(6), number(8)};
            case 18, 21 -> new int[] {table, row(table), number(6)};
            case 19 -> new int[] {table, number(6), number(3), number(2)};
            case 20 -> new int[] {table, number(6), number(6), number(3)};
            case 22 -> new int[] {number(4), number(4), number(12)};
            case 23 -> new int[] {row(0), number(4), number(4)};
            case 24 -> random.nextInt(2) == 0 ? new int[] {number(8)} : new int[] {number(6), number(30)};
            default -> new int[] {};
        };
    }

    private void same(int kind, int... a) {
        if (calls >= CALLS) {
            return;
        }
        calls++;
        KINDS[kind]++;
        // Both are asked by the same numbers; a share is compared by all its bits.
        String got = Expect.outcome(() -> askProgram(kind, a));
        String due = Expect.outcome(() -> askModel(kind, a));
        Expect.that(name + ", call " + calls + ": kind " + kind + " " + Arrays.toString(a), got, due);
    }

    private long askProgram(int kind, int[] a) {
        TruthFilters x = program;
        return switch (kind) {
            case 0 -> x.add(a[0], a[1], a[2], a[3], a[4]);
            case 1 -> x.change(a[0], a[1], a[2], a[3]);
            case 2 -> x.drop(a[0], a[1]);
            case 3 -> x.define(a[0]);
            case 4 -> x.combine(a[0], a[1], a[2], a[3]);
            case 5 -> x.check(a[0], a[1]);
            case 6 -> x.remove(a[0], a[1]);
            case 7 -> x.update(a[0], a[1], a[2], a[3]);
            case 8 -> x.keep(a[0]);
            case 9 -> x.append(a[0]);
            case 10 -> x.clearBuffer();
            case 11 -> x.firstError();
            case 12 -> x.undo();
            case 13 -> x.goBack(a[0]);
            case 14 -> x.cell(a[0], a[1], a[2]);
            case 15 -> x.column(a[0], a[1], a[2]);
            case 16 -> x.filter(a[0], a[1]);
            case 17 -> x.group(a[0], a[1], a[2], a[3]);
            case 18 -> x.truth(a[0], a[1], a[2]);
            case 19 -> x.rows(a[0], a[1], a[2], a[3]);
            case 20 -> x.compare(a[0], a[1], a[2], a[3]);
            case 21 -> x.certain(a[0], a[1], a[2]);
            case 22 -> x.join(a[0], a[1], a[2]);
            case 23 -> x.among(a[0], a[1], a[2]);
            case 24 -> a.length == 1 ? x.count(a[0]) : x.letter(a[0], a[1]);
            default -> Double.doubleToLongBits(x.share(a[0], a[1]));
        };
    }

    private long askModel(int kind, int[] a) {
        Model x = model;
        return switch (kind) {
            case 0 -> x.add(a[0], a[1], a[2], a[3], a[4]);
            case 1 -> x.change(a[0], a[1], a[2], a[3]);
            case 2 -> x.drop(a[0], a[1]);
            case 3 -> x.define(a[0]);
            case 4 -> x.combine(a[0], a[1], a[2], a[3]);
            case 5 -> x.check(a[0], a[1]);
            case 6 -> x.remove(a[0], a[1]);
            case 7 -> x.update(a[0], a[1], a[2], a[3]);
            case 8 -> x.keep(a[0]);
            case 9 -> x.append(a[0]);
            case 10 -> x.clearBuffer();
            case 11 -> x.firstError();
            case 12 -> x.undo();
            case 13 -> x.goBack(a[0]);
            case 14 -> x.cell(a[0], a[1], a[2]);
            case 15 -> x.column(a[0], a[1], a[2]);
            case 16 -> x.filter(a[0], a[1]);
            case 17 -> x.group(a[0], a[1], a[2], a[3]);
            case 18 -> x.truth(a[0], a[1], a[2]);
            case 19 -> x.rows(a[0], a[1], a[2], a[3]);
            case 20 -> x.compare(a[0], a[1], a[2], a[3]);
            case 21 -> x.certain(a[0], a[1], a[2]);
            case 22 -> x.join(a[0], a[1], a[2]);
            case 23 -> x.among(a[0], a[1], a[2]);
            case 24 -> a.length == 1 ? x.count(a[0]) : x.letter(a[0], a[1]);
            default -> Double.doubleToLongBits(x.share(a[0], a[1]));
        };
    }
}
