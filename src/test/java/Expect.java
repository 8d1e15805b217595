import java.util.ArrayList;
import java.util.List;
import java.util.function.Consumer;
import java.util.function.LongSupplier;
import java.util.function.Supplier;

/** What the tests share: comparing answers, expecting exceptions, and looking at all that an object shows. */
final class Expect {
    static final Class<?> INDEX = IndexOutOfBoundsException.class;
    static final Class<?> ARGUMENT = IllegalArgumentException.class;
    static final Class<?> STATE = IllegalStateException.class;
    static final int U = TruthFilters.UNKNOWN_CELL;
    static final int NONE = TruthFilters.NONE;

    private static int asked = 0;
    private static int wrong = 0;
    private static String topic = "";

    private Expect() {
    }

    /** What the next answers are about: it stands ahead of each message. */
    static void about(String newTopic) {
        topic = newTopic.isEmpty() ? "" : newTopic + ": ";
    }

    static int asked() {
        return asked;
    }

    static void that(String what, Object got, Object due) {
        asked++;
        if (!got.equals(due)) {
            wrong++;
            if (wrong <= 50) {
                System.out.println(topic + what + " answered " + got + ", due is " + due);
            }
        }
    }

    static void that(String what, long got, long due) {
        that(what, (Object) got, (Object) due);
    }

    /** Ends a test: exit code 1 if an answer was wrong. */
    static void end() {
        System.out.println(asked + " answers, " + wrong + " wrong");
        if (wrong != 0 || asked == 0) {
            System.exit(1);
        }
    }

    static void type(TruthFilters x, String text) {
        for (int i = 0; i < text.length(); i++) {
            x.append(text.charAt(i));
        }
    }

    /** Defines a filter and answers the object, so that a test can go on with it. */
    static TruthFilters put(TruthFilters x, int slot, String text) {
        x.clearBuffer();
        type(x, text);
        x.define(slot);
        return x;
    }

    static String text(TruthFilters x, int slot) {
        int length = x.filter(slot, 4);
        if (length == NONE) {
            return "-";
        }
        StringBuilder text = new StringBuilder();
        for (int i = 0; i < length; i++) {
            text.append((char) x.letter(slot, i));
        }
        return text.toString();
    }

    static String rowText(TruthFilters x, int table, int row) {
        StringBuilder text = new StringBuilder();
        for (int k = 0; k < 4; k++) {
            text.append(k == 0 ? "" : ",").append(x.cell(table, row, k));
        }
        return text.toString();
    }

    /** The rows of a table, as "1,2,3,4;5,6,7,-1". */
    static String table(TruthFilters x, int table) {
        StringBuilder text = new StringBuilder();
        for (int r = 0; r < x.count(table); r++) {
            text.append(r == 0 ? "" : ";").append(rowText(x, table, r));
        }
        return text.toString();
    }

    /** What queries tell of the state: the tables, the filters, the checks and the refusals. */
    static String state(TruthFilters x) {
        StringBuilder text = new StringBuilder();
        text.append(table(x, 0)).append('/').append(table(x, 1));
        for (int slot = 0; slot < 6; slot++) {
            text.append(' ').append(text(x, slot));
        }
        for (int what = 0; what < 6; what++) {
            text.append(' ').append(x.count(what));
        }
        return text.toString();
    }

    /** The state, the number of saved states and what shows of the buffer. */
    static String look(TruthFilters x) {
        return state(x) + ' ' + x.count(6) + ' ' + x.count(7) + ' ' + x.firstError();
    }

    interface Call {
        long on(TruthFilters x);
    }

    /** What shows the things behind a look: the text in the buffer, saved states, snapshots and checks. */
    private static List<Call> probes() {
        List<Call> probes = new ArrayList<>();
        probes.add(x -> 0);
        probes.add(x -> x.define(5));
        for (int i = 1; i <= 7; i++) {
            int times = i;
            probes.add(x -> undoTimes(x, times));
        }
        for (int i = 0; i < 2; i++) {
            int number = i;
            probes.add(x -> x.goBack(number));
            probes.add(x -> x.add(number, 0, 0, 0, 0));
            probes.add(x -> x.add(number, 99, 99, 99, 99));
        }
        return probes;
    }

    private static final List<Call> PROBES = probes();

    private static long undoTimes(TruthFilters x, int times) {
        for (int i = 1; i < times; i++) {
            x.undo();
        }
        return x.undo();
    }

    /** After the call an object shows what its twin shows without it, however deep one looks. */
    static void unchangedBy(String what, Supplier<TruthFilters> maker, Consumer<TruthFilters> call) {
        for (int i = 0; i < PROBES.size(); i++) {
            Call probe = PROBES.get(i);
            TruthFilters x = maker.get();
            thrown(x, call);
            TruthFilters twin = maker.get();
            String got = outcome(() -> probe.on(x)) + ' ' + look(x);
            String due = outcome(() -> probe.on(twin)) + ' ' + look(twin);
            that("after " + what + " and probe " + i + " the object", got, due);
        }
    }

    /** An answer, or the class of the exception. */
    static String outcome(LongSupplier call) {
        try {
            return Long.toString(call.getAsLong());
        } catch (RuntimeException e) {
            return e.getClass().getName();
        }
    }

    /** A small object with two tables, checks, filters, saved states, a snapshot and a text in its buffer. */
    static TruthFilters sample() {
        TruthFilters x = new TruthFilters();
        put(x, 0, "a<9");
        put(x, 1, "b?");
        x.add(0, 3, U, 5, 6);
        x.add(0, U, 2, 5, 7);
        x.add(1, 3, 3, U, 1);
        x.check(0, 0);
        x.keep(0);
        x.add(0, 9, 1, 1, 1);
        x.change(0, 0, 3, 8);
        type(x, "d=1");
        return x;
    }

    /** The class of the exception that a call throws; Void.class if it throws none. */
    static Class<?> thrown(TruthFilters x, Consumer<TruthFilters> call) {
        try {
            call.accept(x);
            return Void.class;
        } catch (RuntimeException e) {
            return e.getClass();
        }
    }

    /** The call on a sample throws exactly this exception, and nothing of the sample is changed by it. */
    static void refused(String what, Class<?> due, Consumer<TruthFilters> call) {
        refused(what, due, Expect::sample, call);
    }

    /** The same on objects of one's own. */
    static void refused(String what, Class<?> due, Supplier<TruthFilters> maker, Consumer<TruthFilters> call) {
        that(what + " throws", thrown(maker.get(), call), due);
        unchangedBy(what, maker, call);
    }
}
