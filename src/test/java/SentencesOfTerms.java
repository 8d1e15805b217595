import java.lang.reflect.Method;
import java.lang.reflect.Modifier;
import java.util.Arrays;

/** The sentences of the sections "What it is" to "Exceptions", but for those about filters and their texts. */
final class SentencesOfTerms extends Sentences {
    private final Document document;

    SentencesOfTerms(Document document) {
        super(document);
        this.document = document;
    }

    @Override
    void all() {
        whatItIs();
        publicFace();
        terms();
        tables();
        truthValues();
        checks();
        undoAndSnapshots();
        exceptions();
        aheadOfTheCalls();
    }

    private void whatItIs() {
        section("What it is");
        aside("Filters with three truth values: tables whose cells can be unknown, filters as expressions that are "
                + "true, false or unknown for a row, checks that refuse only rows for which they are false, changes "
                + "and removals by filters, groups in which unknown cells count, joins in which unknown cells have "
                + "no partner, membership that is unknown because of one unknown cell, filters that are evaluated "
                + "row by row and by bit sets, and filters that are read from texts and written back.");
        holds("An object is used for at most 512 calls after it has been made; what later calls answer is free.",
                SentencesOfTerms::theLastCall);
    }

    /** The setup takes the first calls; the call that is repeated fills the object up to its 511th call. */
    private static void lastCall(String what, int setup, TruthFilters x, Given repeated, Expect.Call last, long due) {
        for (int call = setup; call < 511; call++) {
            repeated.on(x, call);
        }
        that("call 512, behind many of " + what, last.on(x), due);
    }

    private static long tried(TruthFilters x, Expect.Call call) {
        return Expect.thrown(x, call::on) == Void.class ? 0 : 1;
    }

    private static void theLastCall() {
        lastCall("add that is refused", 6, checked("a?"), (x, n) -> x.add(0, 1, 1, 1, 1), x -> x.count(5), 505);
        lastCall("add to a full table", 41, full(), (x, n) -> tried(x, y -> y.add(1, 1, 1, 1, 1)), x -> x.count(1), 16);
        lastCall("add and drop", 0, new TruthFilters(), (x, n) -> n % 2 == 0 ? x.add(1, 9, 8, 7, 6) : x.drop(1, 0),
                x -> x.drop(1, 0), 0);
        lastCall("change", 1, oneRow(), (x, n) -> x.change(0, 0, 0, n % 100), x -> x.change(0, 0, 0, 1), 10);
        lastCall("append", 0, new TruthFilters(), (x, n) -> n % 61 < 60 ? x.append('!') : x.clearBuffer(),
                x -> x.clearBuffer(), 511 % 61);
        lastCall("define", 0, new TruthFilters(), (x, n) -> n % 3 < 2 ? x.append("a?".charAt(n % 3)) : x.define(n % 6),
                x -> x.filter(5, 0), 1);
        lastCall("combine", 4, filtered("a?"), (x, n) -> x.combine(1, 0, 0, 1 + n % 2), x -> x.letter(1, 2), '&');
        lastCall("check", 4, filtered("a?"), (x, n) -> x.check(n % 2, n % 4 < 2 ? 0 : NONE), x -> x.add(0, 1, 1, 1, 1),
                0);
        lastCall("update", 5, withRow("a?", U, 1, 1, 1), (x, n) -> x.update(0, 0, 1, n % 100), x -> x.cell(0, 0, 1),
                10);
        lastCall("remove", 5, filtered("a=1"), (x, n) -> n % 2 == 0 ? x.add(0, 1, 1, 1, 1) : x.remove(0, 0),
                x -> x.count(0), 1);
        lastCall("keep and goBack", 1, oneRow(), (x, n) -> n % 2 == 1 ? x.keep(0) : x.goBack(0), x -> x.goBack(0), 1);
        lastCall("queries", 1, oneRow(), (x, n) -> x.column(0, n % 4, n % 7), x -> x.count(6), 1);
        theLastQueryOfAFilter();
    }

    private static void theLastQueryOfAFilter() {
        lastCall("truth", 41, full(), (x, n) -> x.truth(0, n % 16, 0), x -> x.truth(0, 8, 0), 2);
        lastCall("rows", 41, full(), (x, n) -> x.rows(0, 0, n % 3, 0), x -> x.rows(1, 1, 0, 0), 65535);
        lastCall("rows by bit sets", 41, full(), (x, n) -> x.rows(0, 0, n % 3, 1), x -> x.rows(1, 1, 0, 1), 65535);
        lastCall("depth", 10, filtered("a?&b?|c?"), (x, n) -> x.filter(0, 1), x -> x.filter(0, 1), 3);
        lastCall("letter", 10, filtered("a?&b?|c?"), (x, n) -> x.letter(0, n % 8), x -> x.filter(0, 4), 8);
        lastCall("compare", 41, full(), (x, n) -> x.compare(n % 2, 0, 1, n % 3), x -> x.compare(0, 0, 1, 0), 9);
        lastCall("certain", 11, withRow("a>b|!a>b", U, U, 3, 4), (x, n) -> x.certain(0, 0, 0), x -> x.certain(0, 0, 0),
                2);
        TruthFilters x = new TruthFilters();
        Expect.type(x, "!(a?&(");
        lastCall("firstError", 6, x, (y, n) -> y.firstError(), TruthFilters::firstError, 6);
    }

    private static TruthFilters oneRow() {
        TruthFilters x = new TruthFilters();
        x.add(0, 1, 2, 3, 4);
        return x;
    }

    private void publicFace() {
        section("The public face");
        holds("public final class TruthFilters {", () -> {
            that("the class", Modifier.toString(TruthFilters.class.getModifiers()), "public final");
            that("its package", TruthFilters.class.getPackageName(), "");
        });
        aside("java");
        for (String line : document.face()) {
            if (!line.contains(" class ")) {
                holds(line + ";", () -> faceHas(line.replaceFirst("^public ", "")));
            }
        }
    }

    private static void faceHas(String line) {
        if (line.startsWith("static")) {
            String name = line.replaceAll("static final int (\\w+) = .*", "$1");
            int value = name.equals("NONE") ? TruthFilters.NONE : TruthFilters.UNKNOWN_CELL;
            that("the constant", "static final int " + name + " = " + value, line);
        } else if (line.equals("TruthFilters()")) {
            that("constructors", Arrays.toString(TruthFilters.class.getDeclaredConstructors()),
                    "[public TruthFilters()]");
        } else {
            long methods = Arrays.stream(TruthFilters.class.getMethods())
                    .filter(m -> Document.signature(m).equals(Document.withoutNames(line))).count();
            that("methods of this signature", methods, 1);
        }
    }

    private void terms() {
        section("Terms");
        holds("All numbers are integers, unless a double is mentioned.", () -> {
            for (Method method : TruthFilters.class.getDeclaredMethods()) {
                if (Modifier.isPublic(method.getModifiers())) {
                    String answer = method.getName().equals("share") ? "double" : "int";
                    that("the answer of " + method.getName(), method.getReturnType().getName(), answer);
                    that("its parameters are numbers", Arrays.stream(method.getParameterTypes())
                            .allMatch(type -> type == int.class), true);
                }
            }
        });
        holds("Sets of rows are bit masks: bit k stands for the row k.", () -> {
            for (int k = 0; k < 16; k++) {
                bitOfRow(k);
            }
        });
    }

    /** Only the row k of both tables has the value 1 in the column a and an unknown cell in the column b. */
    private static void bitOfRow(int k) {
        TruthFilters x = filtered("a=1");
        Expect.put(x, 1, "b=0");
        for (int r = 0; r < 16; r++) {
            x.add(0, r == k ? 1 : 0, r == k ? U : 0, 2, 3);
            x.add(1, r == k ? 1 : 0, r == k ? U : 0, 0, 1);
        }
        int bit = 1 << k;
        for (int table = 0; table < 2; table++) {
            for (int way = 0; way < 2; way++) {
                that("true rows, way " + way, x.rows(table, 0, 2, way), bit);
                that("false rows, way " + way, x.rows(table, 0, 0, way), 65535 - bit);
                that("unknown rows, way " + way, x.rows(table, 1, 1, way), bit);
            }
            that("the group of 1", x.group(table, 0, 1, 1), bit);
            that("the group of the unknown cells", x.group(table, 1, 0, 1), bit);
            that("the group of 0", x.group(table, 1, 1, 1), 65535 - bit);
        }
        that("rows of the table 0 without a partner", x.join(0, 2, 1), bit);
        that("rows of the table 0 with an unknown cell", x.join(1, 1, 1), bit);
        that("rows of the table 1 with an unknown cell", x.join(1, 1, 2), bit);
        x.update(0, 0, 0, 0);
        that("rows of the table 1 without a partner", x.join(0, 0, 2), bit);
    }

    private void tables() {
        section("Tables");
        holds("There are two tables, numbered from 0.", () -> {
            TruthFilters x = new TruthFilters();
            x.add(0, 1, 2, 3, 4);
            x.add(1, 5, 6, 7, 8);
            that("the table 0", Expect.table(x, 0), "1,2,3,4");
            that("the table 1", Expect.table(x, 1), "5,6,7,8");
            noTable((y, n) -> y.add(n, 1, 1, 1, 1));
        });
        holds("Each has at most 16 rows,", () -> {
            TruthFilters x = new TruthFilters();
            for (int table = 0; table < 2; table++) {
                fill(x, table, 16);
                that("rows", x.count(table), 16);
                int full = table;
                that("one more", Expect.thrown(x, y -> y.add(full, 1, 1, 1, 1)), STATE);
                that("rows then", x.count(table), 16);
            }
        });
        holds("numbered from 0 in the order in which they were added;", () -> {
            TruthFilters x = new TruthFilters();
            for (int r = 0; r < 16; r++) {
                that("the row added", x.add(r % 2, 40 - r, r, r, r), r / 2);
            }
            that("column a of the table 0", answers(8, x, (y, r) -> y.cell(0, r, 0)), "40 38 36 34 32 30 28 26");
            that("column a of the table 1", answers(8, x, (y, r) -> y.cell(1, r, 0)), "39 37 35 33 31 29 27 25");
        });
        holds("when a row is removed, the numbers of the later ones become less by 1.", SentencesOfTerms::laterRows);
        holds("A row has four cells, in the columns 0 to 3 (a to d).", () -> {
            TruthFilters x = withRow("a=10&b=11&c=12&d=13", 10, 11, 12, 13);
            that("the cells", answers(4, x, (y, k) -> y.cell(0, 0, k)), "10 11 12 13");
            that("the filter names them", x.truth(0, 0, 0), 2);
            noColumn((y, k) -> y.cell(0, 0, k));
        });
        holds("A cell has a value from 0 to 99, or is unknown.", () -> {
            TruthFilters x = new TruthFilters();
            x.add(0, 0, 99, U, 50);
            that("the cells", Expect.rowText(x, 0, 0), "0,99,-1,50");
            badValue((y, n) -> y.add(1, n, 1, 1, 1));
            badValue((y, n) -> y.change(1, 0, 0, n));
            badValue((y, n) -> y.update(1, 0, 0, n));
        });
    }

    private static void laterRows() {
        for (int gone = 0; gone < 16; gone++) {
            TruthFilters x = new TruthFilters();
            fill(x, 1, 16);
            x.drop(1, gone);
            for (int r = 0; r < 15; r++) {
                that("the row " + r + " without the row " + gone, x.cell(1, r, 2), r < gone ? r : r + 1);
            }
            that("the next row", x.add(1, 99, 99, 99, 99), 15);
        }
        TruthFilters x = filtered("a>2&a<6|a=9|a=15");
        fill(x, 0, 16);
        x.remove(0, 0);
        that("behind several rows that are removed", answers(11, x, (y, r) -> y.cell(0, r, 3)),
                "0 1 2 6 7 8 10 11 12 13 14");
    }

    private void truthValues() {
        section("Truth values");
        String[] tests = {"a=2", "b=2", "a=1"};
        holds("The truth values are FALSE (0), UNKNOWN (1) and TRUE (2).", () -> {
            for (int truth = 0; truth < 3; truth++) {
                TruthFilters x = withRow(tests[truth], 1, U, 3, 4);
                that("truth of " + tests[truth], x.truth(0, 0, 0), truth);
                for (int way = 0; way < 2; way++) {
                    that("the row by way " + way, x.rows(0, 0, truth, way), 1);
                }
            }
        });
        holds("The conjunction of two truth values is the lesser one,",
                () -> ofTwo(tests, "&", new int[] {0, 0, 0, 0, 1, 1, 0, 1, 2}));
        holds("the disjunction is the greater one,", () -> ofTwo(tests, "|", new int[] {0, 1, 2, 1, 1, 2, 2, 2, 2}));
        holds("and the negation of a truth value is 2 minus it.", () -> {
            for (int truth = 0; truth < 3; truth++) {
                truthIs("!" + tests[truth], 2 - truth);
                truthIs("!!" + tests[truth], truth);
            }
        });
    }

    private static void ofTwo(String[] tests, String joint, int[] due) {
        for (int i = 0; i < 9; i++) {
            truthIs(tests[i / 3] + joint + tests[i % 3], due[i]);
        }
        for (int i = 0; i < 27; i++) {
            int first = i / 9;
            int both = due[i % 9];
            String pair = "(" + tests[i / 3 % 3] + joint + tests[i % 3] + ")";
            truthIs(tests[first] + joint + pair, due[3 * first + both]);
            truthIs(tests[first] + "|!" + pair, Math.max(first, 2 - both));
            truthIs("!" + pair + "&" + tests[first], Math.min(2 - both, first));
            truthIs("!(" + tests[first] + joint + pair + ")", 2 - due[3 * first + both]);
        }
    }

    private static void truthIs(String text, int due) {
        TruthFilters x = withRow(text, 1, U, 3, 4);
        that("truth of " + text, x.truth(0, 0, 0), due);
        for (int way = 0; way < 2; way++) {
            that("the row of " + text + " by way " + way, x.rows(0, 0, due, way), 1);
        }
    }

    private void checks() {
        section("Checks");
        holds("A table can have a check, which is a filter;", () -> {
            TruthFilters x = filtered("a=1|!(b<5&c?)");
            for (int table = 0; table < 2; table++) {
                that("check", x.check(table, 0), 0);
                that("a row that is refused", x.add(table, 2, 4, U, 0), NONE);
                that("a row that is taken", x.add(table, 2, 5, U, 0), 0);
            }
        });
        holds("at first it has none.", () -> {
            TruthFilters x = new TruthFilters();
            for (int table = 0; table < 2; table++) {
                that("a row of zeros", x.add(table, 0, 0, 0, 0), 0);
                that("a row of nines", x.add(table, 99, 99, 99, 99), 1);
                that("a row of unknown cells", x.add(table, U, U, U, U), 2);
                that("rows for which the check is unknown", x.count(3 + table), 0);
            }
        });
        holds("A row violates the check if the check is FALSE for it.", () -> {
            TruthFilters x = withRow("a=1", 1, 0, 0, 0);
            x.check(0, 0);
            that("add of a row for which it is FALSE", x.add(0, 2, 0, 0, 0), NONE);
            that("change to such a row", x.change(0, 0, 0, 0), NONE);
            that("update to such a row", x.update(0, 0, 0, 2), NONE);
            that("add of a row for which it is TRUE", x.add(0, 1, 9, 9, 9), 1);
            that("a check for rows for which it is FALSE", Expect.put(x, 1, "b=9").check(0, 1), 1);
        });
        holds("(If it is UNKNOWN, the row does not violate it.)", () -> {
            TruthFilters x = withRow("a=1", 1, 0, 0, 0);
            x.check(0, 0);
            that("add", x.add(0, U, 0, 0, 0), 1);
            that("change", x.change(0, 0, 0, U), 1);
            that("change back", x.change(0, 0, 0, 1), U);
            that("update", x.update(0, 0, 0, U), 1);
            that("check", Expect.put(x, 1, "a=2").check(0, 1), 0);
            that("rows for which it is UNKNOWN", x.count(3), 2);
        });
    }

    private void undoAndSnapshots() {
        section("Undo and snapshots");
        holds("The state consists of the tables, the slots for filters, the checks and what is counted so far.",
                SentencesOfTerms::whatIsRestored);
        holds("Each method that is marked \"Undoable\" saves the state from before the call if it does not throw an "
                + "exception, even if nothing changes.", SentencesOfTerms::evenIfNothingChanges);
        holds("At most 6 states are saved;", () -> {
            TruthFilters x = new TruthFilters();
            for (int i = 0; i < 9; i++) {
                that("saved before add " + i, x.count(6), Math.min(i, 6));
                x.add(0, i, i, i, i);
            }
            that("saved in the end", x.count(6), 6);
        });
        holds("when one more is saved, the oldest one is dropped.", () -> {
            for (int adds = 5; adds < 15; adds++) {
                TruthFilters x = new TruthFilters();
                fill(x, 0, adds);
                for (int left = Math.min(adds, 6) - 1; left >= 0; left--) {
                    that("undo after " + adds + " adds", x.undo(), left);
                }
                that("rows of the oldest state", x.count(0), Math.max(adds - 6, 0));
                that("no older one", Expect.thrown(x, TruthFilters::undo), STATE);
            }
        });
        holds("There are two snapshot slots, which are empty at first.", () -> {
            TruthFilters x = new TruthFilters();
            for (int slot = 0; slot < 2; slot++) {
                int empty = slot;
                that("goBack to " + slot, Expect.thrown(x, y -> y.goBack(empty)), STATE);
            }
            x.keep(1);
            that("goBack to the slot 1", x.goBack(1), 0);
            that("the slot 0 is still empty", Expect.thrown(x, y -> y.goBack(0)), STATE);
            for (int n : new int[] {-1, 2, 3}) {
                outside(n, ARGUMENT, Expect::sample, (y, slot) -> y.keep(slot));
            }
        });
    }

    /** By undo and by goBack: rows, filters, checks, refusals; the buffer and the saved states are no part of it. */
    private static void whatIsRestored() {
        for (int way = 0; way < 2; way++) {
            TruthFilters x = checked("a<9");
            x.add(0, 8, U, 1, 2);
            x.add(1, 9, 9, 9, 9);
            String before = Expect.state(x);
            x.keep(0);
            Expect.type(x, "b=1");
            x.add(0, 9, 9, 9, 9);
            x.change(0, 0, 3, 44);
            x.combine(4, 0, 0, 1);
            x.check(0, NONE);
            int saved = way == 0 ? undone(x, 4) : goneBack(x);
            that("the state", Expect.state(x), before);
            that("refusals", x.count(5), 1);
            that("the check", x.add(0, 9, 9, 9, 9), NONE);
            that("saved states", saved, way == 0 ? 2 : 6);
            that("the buffer", x.count(7), 3);
        }
    }

    private static int undone(TruthFilters x, int times) {
        for (int i = 0; i < times; i++) {
            x.undo();
        }
        return x.count(6);
    }

    private static int goneBack(TruthFilters x) {
        x.goBack(0);
        return x.count(6);
    }

    private static void evenIfNothingChanges() {
        undoable("change to the same value", Expect::sample, x -> x.change(0, 0, 0, 3), 3);
        undoable("change of an unknown cell to unknown", Expect::sample, x -> x.change(0, 0, 1, U), U);
        undoable("check by the same filter", Expect::sample, x -> x.check(0, 0), 0);
        undoable("no check where none is", Expect::sample, x -> x.check(1, NONE), 0);
        undoable("remove of no row", Expect::sample, x -> x.remove(1, 1), 0);
        undoable("update of no row", Expect::sample, x -> x.update(1, 1, 0, 1), 0);
        undoable("update to the same value", Expect::sample, x -> x.update(0, 0, 0, 3), 1);
        undoable("remove in an empty table", () -> filtered("a?"), x -> x.remove(0, 0), 0);
        undoable("goBack to the same state", Expect::sample, x -> x.goBack(1), 3);
        undoable("a check that is refused", Expect::sample, x -> x.check(0, 1), 1);
        undoable("an add that is refused", Expect::sample, x -> x.add(0, 9, 0, 0, 0), NONE);
        undoable("a change that is refused", Expect::sample, x -> x.change(0, 0, 0, 9), NONE);
        undoable("an update that is refused", Expect::sample, x -> x.update(0, 0, 0, 9), NONE);
        TruthFilters x = filtered("a?");
        Expect.type(x, "a?");
        that("define of the same filter", x.define(0), 1);
        that("saved states", x.count(6), 2);
        Expect.thrown(x, y -> y.define(0));
        Expect.thrown(x, y -> y.drop(0, 0));
        Expect.thrown(x, y -> y.goBack(0));
        Expect.thrown(x, y -> y.remove(0, 1));
        that("calls that throw save none", x.count(6), 2);
        x.keep(0);
        x.append('a');
        x.clearBuffer();
        that("nor do calls that are not undoable", x.count(6), 2);
        x.undo();
        that("nor does undo", x.count(6), 1);
    }

    private void exceptions() {
        section("Exceptions");
        holds("A call that throws an exception changes nothing.", SentencesOfTerms::afterExceptions);
        holds("If more than one exception applies to a call, the one that its throws clause lists first is thrown.",
                SentencesOfTerms::orderOfExceptions);
        holds("The constants: `UNKNOWN_CELL = -1`: An unknown cell.", () -> {
            that("the constant", TruthFilters.UNKNOWN_CELL, -1);
            TruthFilters x = withRow("a?", TruthFilters.UNKNOWN_CELL, 0, 0, 0);
            that("the cell", x.cell(0, 0, 0), -1);
            that("is unknown", x.truth(0, 0, 0), 2);
        });
        holds("`NONE = -2`: There is no such number, or something is refused.", () -> {
            that("the constant", TruthFilters.NONE, -2);
            TruthFilters x = checked("a=1");
            that("refused", x.add(0, 2, 2, 2, 2), -2);
            that("no such number", x.column(0, 0, 3), -2);
            that("no such filter", x.filter(1, 0), -2);
        });
    }

    private static void afterExceptions() {
        refused("add", STATE, Sentences::full, x -> x.add(0, 1, 1, 1, 1));
        refused("add with a bad last cell", ARGUMENT, Expect::sample, x -> x.add(0, 1, 1, 1, 100));
        refused("change", ARGUMENT, Sentences::full, x -> x.change(1, 15, 3, 100));
        refused("drop", INDEX, Sentences::full, x -> x.drop(1, 16));
        refused("define of an incomplete text", ARGUMENT, () -> withText("a=1&"), x -> x.define(0));
        refused("define in no slot", INDEX, Expect::sample, x -> x.define(6));
        refused("combine of empty slots", STATE, Expect::sample, x -> x.combine(0, 1, 2, 1));
        refused("combine to a large one", STATE, SentencesOfTerms::withLargeFilter, x -> x.combine(0, 0, 1, 1));
        refused("check", STATE, Expect::sample, x -> x.check(0, 5));
        refused("remove", STATE, Sentences::full, x -> x.remove(0, 5));
        refused("update", STATE, Sentences::full, x -> x.update(0, 5, 0, 0));
        refused("update to a bad value", ARGUMENT, Sentences::full, x -> x.update(0, 0, 0, -2));
        refused("append", STATE, () -> withText("!".repeat(60)), x -> x.append('a'));
        refused("append of a bad code", ARGUMENT, Expect::sample, x -> x.append(127));
        refused("undo", STATE, TruthFilters::new, TruthFilters::undo);
        refused("keep", ARGUMENT, Expect::sample, x -> x.keep(2));
        refused("goBack", STATE, Expect::sample, x -> x.goBack(1));
        refused("goBack to no slot", ARGUMENT, Expect::sample, x -> x.goBack(2));
    }

    private static TruthFilters withLargeFilter() {
        TruthFilters x = Expect.sample();
        String buffer = "d=1";
        Expect.put(x, 0, "!".repeat(50) + "a?");
        Expect.type(x, buffer);
        return x;
    }

    private static void first(Class<?> due, Expect.Call call) {
        that("the exception", Expect.thrown(Expect.sample(), call::on), due);
    }

    /** A sample has filters in the slots 0 and 1 alone, a check of the table 0, and a snapshot in the slot 0. */
    private static void orderOfExceptions() {
        first(INDEX, x -> x.add(2, 100, 1, 1, 1));
        that("add", Expect.thrown(full(), x -> x.add(-1, 1, 1, 1, 1)), INDEX);
        that("add", Expect.thrown(full(), x -> x.add(-1, 1, 1, 1, -2)), INDEX);
        that("add", Expect.thrown(full(), x -> x.add(0, 1, 1, 1, -2)), ARGUMENT);
        first(INDEX, x -> x.change(2, 0, 0, 100));
        first(INDEX, x -> x.change(0, 2, 0, 100));
        first(INDEX, x -> x.change(0, 0, 4, 100));
        that("define", Expect.thrown(withText("a=="), x -> x.define(6)), INDEX);
        that("define", Expect.thrown(withText(""), x -> x.define(-1)), INDEX);
        first(INDEX, x -> x.combine(6, 0, 1, 3));
        first(INDEX, x -> x.combine(0, 6, 1, 3));
        first(INDEX, x -> x.combine(0, 0, 6, 3));
        first(INDEX, x -> x.combine(6, 4, 4, 1));
        first(INDEX, x -> x.combine(0, 4, 6, 1));
        first(INDEX, x -> x.combine(0, 4, 6, 0));
        first(INDEX, x -> x.combine(0, 6, 4, 2));
        first(INDEX, x -> x.combine(6, 4, 4, 3));
        first(ARGUMENT, x -> x.combine(0, 4, 1, 3));
        first(ARGUMENT, x -> x.combine(0, 0, 4, -1));
        that("combine", Expect.thrown(withLargeFilter(), x -> x.combine(0, 0, 0, 3)), ARGUMENT);
        that("combine", Expect.thrown(withLargeFilter(), x -> x.combine(6, 0, 0, 0)), INDEX);
        first(INDEX, x -> x.check(2, 4));
        first(INDEX, x -> x.remove(2, 4));
        first(INDEX, x -> x.update(2, 0, 0, 100));
        first(INDEX, x -> x.update(0, 6, 0, 100));
        first(INDEX, x -> x.update(0, 0, 4, 100));
        first(INDEX, x -> x.update(2, 4, 0, 1));
        first(INDEX, x -> x.update(0, 4, 4, 1));
        first(INDEX, x -> x.update(0, 4, 4, 100));
        first(ARGUMENT, x -> x.update(0, 4, 0, 100));
        that("append", Expect.thrown(withText("a".repeat(60)), x -> x.append(32)), ARGUMENT);
        that("goBack", Expect.thrown(new TruthFilters(), x -> x.goBack(2)), ARGUMENT);
        orderInQueries();
    }

    private static void orderInQueries() {
        first(INDEX, x -> x.column(2, 0, 7));
        first(INDEX, x -> x.column(0, 4, 7));
        first(INDEX, x -> x.group(2, 0, -1, 0));
        first(INDEX, x -> x.group(0, 4, 0, 8));
        first(INDEX, x -> x.rows(2, 0, 3, 0));
        first(INDEX, x -> x.rows(2, 0, 0, 2));
        first(INDEX, x -> x.rows(0, 6, 3, 0));
        first(INDEX, x -> x.rows(0, 6, 0, 2));
        first(INDEX, x -> x.filter(6, 5));
        first(INDEX, x -> x.letter(6, -1));
        first(INDEX, x -> x.compare(2, 0, 1, 3));
        first(INDEX, x -> x.compare(0, 6, 1, 3));
        first(INDEX, x -> x.compare(0, 1, 6, 3));
        first(INDEX, x -> x.join(4, 0, -1));
        first(INDEX, x -> x.join(0, 4, -1));
    }

    /** These sentences stand in the section of the exceptions. */
    private void aheadOfTheCalls() {
        aside("Ahead of the calls `add`, `change`, `drop` the interface says: ---- tables.");
        aside("Ahead of the calls `define`, `combine`, `check`, `remove`, `update` the interface says: ---- filters.");
        aside("Ahead of the calls `append`, `clearBuffer`, `firstError` the interface says: ---- filter text.");
        aside("Ahead of the calls `undo`, `keep`, `goBack` the interface says: ---- undo and snapshots.");
        holds("Ahead of the calls `cell`, `column`, `group` the interface says: ---- queries about tables; nothing "
                + "changes.", () -> {
                    changesNothing("cell", x -> x.cell(0, 0, 0));
                    for (int what = 0; what < 8; what++) {
                        int number = what;
                        changesNothing("column " + what, x -> x.column(0, 0, number));
                        changesNothing("group " + what, x -> x.group(0, 0, 0, number));
                    }
                });
        holds("Ahead of the calls `truth`, `rows`, `filter`, `letter`, `compare`, `certain` the interface says: ---- "
                + "queries about filters; nothing changes.", () -> {
                    changesNothing("truth", x -> x.truth(0, 0, 0));
                    changesNothing("rows", x -> x.rows(0, 0, 2, 0));
                    changesNothing("rows by bit sets", x -> x.rows(0, 0, 1, 1));
                    changesNothing("filter", x -> x.filter(0, 4));
                    changesNothing("letter", x -> x.letter(0, 1));
                    changesNothing("compare", x -> x.compare(0, 0, 1, 2));
                    changesNothing("certain", x -> x.certain(0, 0, 1));
                    changesNothing("certain with an unknown cell", x -> x.certain(0, 1, 0));
                });
        holds("Ahead of the calls `join`, `among`, `count`, `share` the interface says: ---- queries about both "
                + "tables; nothing changes.", () -> {
                    for (int what = 0; what < 8; what++) {
                        int number = what;
                        changesNothing("join " + what, x -> x.join(0, 0, number));
                        changesNothing("count " + what, x -> x.count(number));
                    }
                    changesNothing("among", x -> x.among(0, 0, 0));
                    changesNothing("share", x -> (long) x.share(0, 0));
                });
    }
}
