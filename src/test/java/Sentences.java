import java.util.function.Consumer;
import java.util.function.Supplier;

/** What the tests of single sentences share. */
abstract class Sentences {
    static final int U = Expect.U;
    static final int NONE = Expect.NONE;
    static final Class<?> INDEX = Expect.INDEX;
    static final Class<?> ARGUMENT = Expect.ARGUMENT;
    static final Class<?> STATE = Expect.STATE;

    interface Given {
        long on(TruthFilters x, int number);
    }

    private final Document document;

    Sentences(Document document) {
        this.document = document;
    }

    abstract void all();

    void section(String name) {
        document.section(name);
    }

    void holds(String sentence, Runnable test) {
        document.holds(sentence, test);
    }

    void aside(String words) {
        document.aside(words);
    }

    static void that(String what, Object got, Object due) {
        Expect.that(what, got, due);
    }

    static void that(String what, long got, long due) {
        Expect.that(what, got, due);
    }

    /** The numbers from the first to the last are taken; others are refused, and change nothing. */
    static void only(int first, int last, Class<?> due, Supplier<TruthFilters> maker, Given call) {
        for (int n = first; n <= last; n++) {
            taken(n, maker, call);
        }
        for (int n : new int[] {first - 1, first - 2, last + 1, last + 2, last + 32, last + 256, last + 65536,
                first - 65536, Integer.MAX_VALUE, Integer.MIN_VALUE}) {
            outside(n, due, maker, call);
        }
    }

    static void taken(int number, Supplier<TruthFilters> maker, Given call) {
        that("what " + number + " throws", Expect.thrown(maker.get(), x -> call.on(x, number)), Void.class);
    }

    static void outside(int number, Class<?> due, Supplier<TruthFilters> maker, Given call) {
        Expect.refused(Integer.toString(number), due, maker, x -> call.on(x, number));
    }

    static void refused(String what, Class<?> due, Supplier<TruthFilters> maker, Consumer<TruthFilters> call) {
        Expect.refused(what, due, maker, call);
    }

    /** There is nothing like this in any table: neither below 0 nor behind the tables. */
    static void noTable(Given call) {
        for (int n : new int[] {-1, NONE, 2, 3, 256, Integer.MAX_VALUE, Integer.MIN_VALUE}) {
            outside(n, INDEX, Expect::sample, call);
            outside(n, INDEX, TruthFilters::new, call);
        }
    }

    static void noColumn(Given call) {
        for (int n : new int[] {-1, NONE, 4, 5, 256, Integer.MAX_VALUE, Integer.MIN_VALUE}) {
            outside(n, INDEX, Expect::sample, call);
        }
    }

    static void noSlot(Given call) {
        for (int n : new int[] {-1, NONE, 6, 7, 256, Integer.MAX_VALUE, Integer.MIN_VALUE}) {
            outside(n, INDEX, Expect::sample, call);
            outside(n, INDEX, TruthFilters::new, call);
        }
    }

    /** Rows that no table has, those behind the rows of a sample, of an empty and of a full table. */
    static void noRow(int table, Given call) {
        for (int n : new int[] {-1, NONE, 16, 17, 256, Integer.MAX_VALUE, Integer.MIN_VALUE}) {
            outside(n, INDEX, Expect::sample, call);
            outside(n, INDEX, Sentences::full, call);
        }
        outside(Expect.sample().count(table), INDEX, Expect::sample, call);
        outside(15, INDEX, Expect::sample, call);
        outside(0, INDEX, TruthFilters::new, call);
        outside(0, INDEX, () -> onlyOtherRows(table), call);
    }

    private static TruthFilters onlyOtherRows(int table) {
        TruthFilters x = filtered("a?");
        x.add(1 - table, 1, 1, 1, 1);
        return x;
    }

    static void badValue(Given call) {
        for (int n : new int[] {-2, -3, 100, 101, 256, Integer.MAX_VALUE, Integer.MIN_VALUE}) {
            outside(n, ARGUMENT, Expect::sample, call);
        }
    }

    static void notUpTo(int last, Given call) {
        for (int n : new int[] {-1, NONE, last + 1, last + 2, 256, Integer.MAX_VALUE, Integer.MIN_VALUE}) {
            outside(n, ARGUMENT, Expect::sample, call);
            outside(n, ARGUMENT, TruthFilters::new, call);
        }
    }

    /** The call saves the state from before it, whether few states are saved or as many as there can be. */
    static void undoable(String what, Supplier<TruthFilters> maker, Expect.Call call, long answer) {
        TruthFilters few = withOneSavedState(maker.get());
        String before = Expect.state(few);
        that(what, call.on(few), answer);
        that("saved states after " + what, few.count(6), 2);
        that("undo of " + what, few.undo(), 1);
        that("the state after undo of " + what, Expect.state(few), before);
        TruthFilters many = withOneSavedState(maker.get());
        for (int i = 0; i < 6; i++) {
            many.goBack(1);
        }
        that(what + " with six saved states", call.on(many), answer);
        that("saved states then", many.count(6), 6);
        that("undo then", many.undo(), 5);
        that("the state after that undo", Expect.state(many), before);
    }

    private static TruthFilters withOneSavedState(TruthFilters x) {
        x.keep(1);
        while (x.count(6) > 0) {
            x.undo();
        }
        x.goBack(1);
        return x;
    }

    static void changesNothing(String what, Expect.Call call) {
        Expect.unchangedBy(what, Expect::sample, call::on);
        Expect.unchangedBy(what + " on a new object", TruthFilters::new, call::on);
        Expect.unchangedBy(what + " on full tables", Sentences::full, call::on);
    }

    /** Each answer of a call for the numbers from 0 on, with blanks between them. */
    static String answers(int count, TruthFilters x, Given call) {
        StringBuilder text = new StringBuilder();
        for (int n = 0; n < count; n++) {
            text.append(n == 0 ? "" : " ").append(call.on(x, n));
        }
        return text.toString();
    }

    /** An object with a filter in the slot 0. */
    static TruthFilters filtered(String text) {
        return Expect.put(new TruthFilters(), 0, text);
    }

    /** An object with a filter in the slot 0 and a row in the table 0. */
    static TruthFilters withRow(String text, int a, int b, int c, int d) {
        TruthFilters x = filtered(text);
        x.add(0, a, b, c, d);
        return x;
    }

    /** An object whose filter in the slot 0 is the check of both tables. */
    static TruthFilters checked(String text) {
        TruthFilters x = filtered(text);
        x.check(0, 0);
        x.check(1, 0);
        return x;
    }

    /** Sixteen rows in each table, with the numbers of the rows in their columns a, and filters in two slots. */
    static TruthFilters full() {
        TruthFilters x = filtered("a<9");
        Expect.put(x, 1, "d?");
        for (int r = 0; r < 16; r++) {
            x.add(0, r, 99 - r, 7, U);
            x.add(1, r, 50, r % 2, 0);
        }
        return x;
    }

    /** A filter a=0 to a=5 in each slot, and a row with a 3 in the column a in each table. */
    static TruthFilters sixFilters() {
        TruthFilters x = new TruthFilters();
        for (int slot = 0; slot < 6; slot++) {
            Expect.put(x, slot, "a=" + slot);
        }
        x.add(0, 3, 1, U, 1);
        x.add(1, 3, 1, 1, 1);
        return x;
    }

    /** A sample with another text in its buffer. */
    static TruthFilters withText(String text) {
        TruthFilters x = Expect.sample();
        x.clearBuffer();
        Expect.type(x, text);
        return x;
    }

    static void fill(TruthFilters x, int table, int rows) {
        for (int r = 0; r < rows; r++) {
            x.add(table, r, r, r, r);
        }
    }
}
