import java.util.function.Consumer;
import java.util.function.LongSupplier;

/** What the tests share: comparing answers, expecting exceptions, and looking at all that an object shows. */
final class Expect {
    static final Class<?> INDEX = IndexOutOfBoundsException.class;
    static final Class<?> ARGUMENT = IllegalArgumentException.class;
    static final Class<?> STATE = IllegalStateException.class;
    static final int U = TruthFilters.UNKNOWN_CELL;
    static final int NONE = TruthFilters.NONE;

    private static int asked = 0;
    private static int wrong = 0;

    private Expect() {
    }

    static void that(String what, Object got, Object due) {
        asked++;
        if (!got.equals(due)) {
            wrong++;
            if (wrong <= 50) {
                System.out.println(what + " answered " + got + ", due is " + due);
            }
        }
    }

    static void that(String what, long got, long due) {
        that(what, (Object) got, (Object) due);
    }

    /** Ends a test: exit code 1 if an answer was wrong. */
    static void end() {
        System.out.println(asked + " answers, " + wrong + " wrong");
        if (wrong != 0 || asked == 0) {
            System.exit(1);
        }
    }

    static void type(TruthFilters x, String text) {
        for (int i = 0; i < text.length(); i++) {
            x.append(text.charAt(i));
        }
    }

    /** Defines a filter and answers the object, so that a test can go on with it. */
    static TruthFilters put(TruthFilters x, int slot, String text) {
        x.clearBuffer();
        type(x, text);
        x.define(slot);
        return x;
    }

    static String text(TruthFilters x, int slot) {
        int length = x.filter(slot, 4);
        if (length == NONE) {
            return "-";
        }
        StringBuilder text = new StringBuilder();
        for (int i = 0; i < length; i++) {
            text.append((char) x.letter(slot, i));
        }
        return text.toString();
    }

    static String rowText(TruthFilters x, int table, int row) {
        StringBuilder text = new StringBuilder();
        for (int k = 0; k < 4; k++) {
            text.append(k == 0 ? "" : ",").append(x.cell(table, row, k));
        }
        return text.toString();
    }

    /** The rows of a table, as "1,2,3,4;5,6,7,-1". */
    static String table(TruthFilters x, int table) {
        StringBuilder text = new StringBuilder();
        for (int r = 0; r < x.count(table); r++) {
            text.append(r == 0 ? "" : ";").append(rowText(x, table, r));
        }
        return text.toString();
    }

    /** All that queries tell of the state and the buffer. */
    static String look(TruthFilters x) {
        StringBuilder text = new StringBuilder();
        text.append(table(x, 0)).append('/').append(table(x, 1));
        for (int slot = 0; slot < 6; slot++) {
            text.append(' ').append(text(x, slot));
        }
        for (int what = 0; what < 8; what++) {
            text.append(' ').append(x.count(what));
        }
        return text.append(' ').append(x.firstError()).toString();
    }

    /** Also what lies deeper: the buffer, the saved states and the snapshots; the object is used up by that. */
    static String lookDeep(TruthFilters x) {
        StringBuilder text = new StringBuilder(look(x));
        text.append(" define ").append(outcome(() -> x.define(5))).append(' ').append(text(x, 5));
        for (int i = 0; i < 7; i++) {
            text.append(" undo ").append(outcome(x::undo)).append(' ').append(look(x));
        }
        for (int slot = 0; slot < 2; slot++) {
            int from = slot;
            text.append(" goBack ").append(outcome(() -> x.goBack(from))).append(' ').append(look(x));
        }
        return text.toString();
    }

    /** An answer, or the class of the exception. */
    static String outcome(LongSupplier call) {
        try {
            return Long.toString(call.getAsLong());
        } catch (RuntimeException e) {
            return e.getClass().getName();
        }
    }

    /** A small object with two tables, checks, filters, saved states, a snapshot and a text in its buffer. */
    static TruthFilters sample() {
        TruthFilters x = new TruthFilters();
        put(x, 0, "a<9");
        put(x, 1, "b?");
        x.add(0, 3, U, 5, 6);
        x.add(0, U, 2, 5, 7);
        x.add(1, 3, 3, U, 1);
        x.check(0, 0);
        x.keep(0);
        x.add(0, 9, 1, 1, 1);
        x.change(0, 0, 3, 8);
        type(x, "d=1");
        return x;
    }

    /** The call on a sample throws exactly this exception, and nothing of the sample is changed by it. */
    static void refused(String what, Class<?> due, Consumer<TruthFilters> call) {
        refused(what, due, sample(), sample(), call);
    }

    /** The same on an object of one's own, with a twin that is left alone. */
    static void refused(String what, Class<?> due, TruthFilters x, TruthFilters twin, Consumer<TruthFilters> call) {
        Class<?> got = Void.class;
        try {
            call.accept(x);
        } catch (RuntimeException e) {
            got = e.getClass();
        }
        that(what + " throws", got, due);
        that("after " + what + " the object", lookDeep(x), lookDeep(twin));
    }
}
