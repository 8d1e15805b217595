/** Promises 6 to 9, 19, 20, 23 and 24: filters that are combined, checked, applied to rows and compared. */
public final class FiltersTest {
    private static final int U = Expect.U;
    private static final int NONE = Expect.NONE;
    private static final int[] NO_TABLES = {-1, 2, Integer.MAX_VALUE, Integer.MIN_VALUE};
    private static final int[] NO_SLOTS = {-1, 6, Integer.MAX_VALUE, Integer.MIN_VALUE};
    private static final int[] NO_COLUMNS = {-1, 4, Integer.MAX_VALUE, Integer.MIN_VALUE};

    public static void main(String[] args) {
        combineOrdinary();
        combineSizes();
        combineWrong();
        checkOrdinary();
        checkIsIndependent();
        checkWrong();
        removeOrdinary();
        removeWrong();
        updateOrdinary();
        updateWithCheck();
        updateWrong();
        truthsOfTests();
        truthsOfJoints();
        truthsWrong();
        rowsOfFilters();
        rowsWrong();
        compared();
        comparedWrong();
        certainOrdinary();
        certainAtEdges();
        certainWrong();
        Expect.end();
    }

    private static TruthFilters withRow(int a, int b, int c, int d) {
        TruthFilters x = new TruthFilters();
        x.add(0, a, b, c, d);
        return x;
    }

    private static void combineOrdinary() {
        TruthFilters x = new TruthFilters();
        Expect.put(x, 0, "a=1");
        Expect.put(x, 1, "b?|c?");
        Expect.that("negation", x.combine(2, 0, 5, 0), 2);
        Expect.that("its text", Expect.text(x, 2), "!a=1");
        Expect.that("conjunction", x.combine(3, 0, 1, 1), 5);
        Expect.that("its text", Expect.text(x, 3), "a=1&(b?|c?)");
        Expect.that("disjunction", x.combine(4, 0, 1, 2), 5);
        Expect.that("its text", Expect.text(x, 4), "a=1|(b?|c?)");
        Expect.that("the other way round", x.combine(5, 1, 0, 2), 5);
        Expect.that("its text", Expect.text(x, 5), "b?|c?|a=1");
        Expect.that("saved", x.count(6), 6);
        Expect.that("with itself, into itself", x.combine(0, 0, 0, 1), 3);
        Expect.that("its text", Expect.text(x, 0), "a=1&a=1");
        Expect.that("what was made of it stays", Expect.text(x, 3), "a=1&(b?|c?)");
        x.undo();
        Expect.that("undo", Expect.text(x, 0), "a=1");
        Expect.that("the buffer is not looked at", x.append('a'), 1);
        x.combine(1, 1, 1, 0);
        Expect.that("and stays", x.count(7), 1);
        Expect.that("negation of a disjunction", Expect.text(x, 1), "!(b?|c?)");
    }

    private static void combineSizes() {
        TruthFilters x = new TruthFilters();
        Expect.put(x, 0, "!".repeat(38) + "a?");
        Expect.put(x, 1, "!".repeat(39) + "a?");
        Expect.put(x, 2, "!".repeat(18) + "a?");
        Expect.put(x, 3, "!".repeat(19) + "a?");
        Expect.put(x, 4, "!".repeat(58) + "a?");
        Expect.that("negation up to 40", x.combine(5, 0, 0, 0), 40);
        Expect.that("conjunction up to 40", x.combine(5, 2, 3, 1), 40);
        Expect.that("disjunction up to 40", x.combine(5, 3, 2, 2), 40);
        int saved = x.count(6);
        String illegal = "java.lang.IllegalStateException";
        Expect.that("negation to 41", Expect.outcome(() -> x.combine(5, 1, 0, 0)), illegal);
        Expect.that("negation to 60", Expect.outcome(() -> x.combine(5, 4, 0, 0)), illegal);
        Expect.that("conjunction to 41", Expect.outcome(() -> x.combine(5, 3, 3, 1)), illegal);
        Expect.that("disjunction to 41", Expect.outcome(() -> x.combine(5, 3, 3, 2)), illegal);
        Expect.that("disjunction to 119", Expect.outcome(() -> x.combine(5, 4, 4, 2)), illegal);
        Expect.that("the slot stays", x.filter(5, 0), 40);
        Expect.that("nothing is saved", x.count(6), saved);
    }

    private static void combineWrong() {
        for (int slot : NO_SLOTS) {
            Expect.refused("combine into " + slot, Expect.INDEX, x -> x.combine(slot, 4, 4, 3));
            Expect.refused("combine one " + slot, Expect.INDEX, x -> x.combine(0, slot, 4, 3));
            Expect.refused("combine other " + slot, Expect.INDEX, x -> x.combine(0, 4, slot, 3));
            Expect.refused("negation with other " + slot, Expect.INDEX, x -> x.combine(0, 0, slot, 0));
        }
        Expect.refused("combine with NONE", Expect.INDEX, x -> x.combine(0, 0, NONE, 0));
        for (int how : new int[] {-1, 3, Integer.MAX_VALUE, Integer.MIN_VALUE}) {
            Expect.refused("combine by " + how, Expect.ARGUMENT, x -> x.combine(0, 0, 1, how));
            Expect.refused("combine of nothing by " + how, Expect.ARGUMENT, x -> x.combine(0, 4, 4, how));
        }
        Expect.refused("negation of nothing", Expect.STATE, x -> x.combine(0, 4, 0, 0));
        for (int how = 1; how <= 2; how++) {
            int by = how;
            Expect.refused("combine of nothing", Expect.STATE, x -> x.combine(0, 4, 0, by));
            Expect.refused("combine with nothing", Expect.STATE, x -> x.combine(0, 0, 4, by));
        }
    }

    private static void checkOrdinary() {
        TruthFilters x = new TruthFilters();
        x.add(0, 1, 0, 0, 0);
        x.add(0, U, 0, 0, 0);
        x.add(0, 7, 0, 0, 0);
        x.add(0, 8, 0, 0, 0);
        Expect.put(x, 0, "a<7");
        Expect.put(x, 1, "a<9");
        Expect.that("two rows violate it", x.check(0, 0), 2);
        Expect.that("refusals", x.count(5), 1);
        Expect.that("rows with unknown check", x.count(3), 0);
        Expect.that("saved", x.count(6), 6);
        Expect.that("it is not the check", x.change(0, 0, 0, 99), 1);
        x.undo();
        Expect.put(x, 2, "a<8");
        Expect.that("one row violates it", x.check(0, 2), 1);
        Expect.that("refusals", x.count(5), 2);
        x.undo();
        Expect.that("check that holds", x.check(0, 1), 0);
        Expect.that("refusals", x.count(5), 1);
        Expect.that("rows with unknown check", x.count(3), 1);
        Expect.that("it is the check", x.change(0, 0, 0, 9), NONE);
        Expect.that("a refused check leaves the old one", x.check(0, 0), 2);
        Expect.that("so it is", x.change(0, 0, 0, 9), NONE);
        Expect.that("no check", x.check(0, NONE), 0);
        Expect.that("then all is taken", x.change(0, 0, 0, 9), 1);
        Expect.that("refusals", x.count(5), 4);
        x.undo();
        x.undo();
        Expect.that("undo brings the check back", x.change(0, 0, 0, 9), NONE);
        Expect.that("check of the empty table", x.check(1, 0), 0);
        Expect.that("it counts there", x.add(1, 7, 0, 0, 0), NONE);
        Expect.that("no check without one", new TruthFilters().check(1, NONE), 0);
    }

    private static void checkIsIndependent() {
        TruthFilters x = Expect.put(new TruthFilters(), 0, "a=1");
        x.check(0, 0);
        Expect.put(x, 0, "a=2");
        Expect.that("the check stays", x.add(0, 2, 0, 0, 0), NONE);
        Expect.that("as it was", x.add(0, 1, 0, 0, 0), 0);
        x.combine(0, 0, 0, 0);
        Expect.that("also after combine", x.add(0, 2, 0, 0, 0), NONE);
        x.undo();
        Expect.put(x, 1, "a=1");
        x.check(1, 1);
        Expect.that("each table has its own", x.add(1, 2, 0, 0, 0), NONE);
        x.check(0, NONE);
        Expect.that("without one here", x.add(0, 2, 0, 0, 0), 1);
        Expect.that("with one there", x.add(1, 2, 0, 0, 0), NONE);
    }

    private static void checkWrong() {
        for (int table : NO_TABLES) {
            Expect.refused("check of table " + table, Expect.INDEX, x -> x.check(table, 4));
            Expect.refused("no check of table " + table, Expect.INDEX, x -> x.check(table, NONE));
        }
        for (int slot : new int[] {-1, -3, 6, Integer.MAX_VALUE, Integer.MIN_VALUE}) {
            Expect.refused("check by slot " + slot, Expect.INDEX, x -> x.check(0, slot));
        }
        Expect.refused("check by an empty slot", Expect.STATE, x -> x.check(0, 4));
        Expect.refused("check of an empty slot", Expect.STATE, x -> x.check(1, 5));
    }

    private static TruthFilters fourRows() {
        TruthFilters x = new TruthFilters();
        x.add(0, 1, 9, 0, 0);
        x.add(0, U, 8, 0, 0);
        x.add(0, 3, 7, 0, 0);
        x.add(0, 1, 6, 0, 0);
        x.add(1, 1, 1, 1, 1);
        return x;
    }

    private static void removeOrdinary() {
        TruthFilters x = Expect.put(fourRows(), 0, "a=1");
        Expect.that("remove", x.remove(0, 0), 2);
        Expect.that("what is left", Expect.table(x, 0), "-1,8,0,0;3,7,0,0");
        Expect.that("the other table", x.count(1), 1);
        Expect.that("nothing to remove", x.remove(0, 0), 0);
        x.undo();
        x.undo();
        Expect.that("undo of remove", Expect.table(x, 0), "1,9,0,0;-1,8,0,0;3,7,0,0;1,6,0,0");
        Expect.put(x, 1, "a?|!a?");
        Expect.that("remove all", x.remove(0, 1), 4);
        Expect.that("none is left", x.count(0), 0);
        Expect.that("remove of none", x.remove(0, 1), 0);
        Expect.that("remove in table 1", x.remove(1, 1), 1);
        Expect.that("a removal is no refusal", x.count(5), 0);
        TruthFilters full = Expect.put(new TruthFilters(), 0, "b=1");
        for (int i = 0; i < 16; i++) {
            full.add(1, i, i % 2, 0, 0);
        }
        Expect.that("remove every other row", full.remove(1, 0), 8);
        Expect.that("the last one", full.cell(1, 7, 0), 14);
    }

    private static void removeWrong() {
        for (int table : NO_TABLES) {
            Expect.refused("remove of table " + table, Expect.INDEX, x -> x.remove(table, 4));
        }
        for (int slot : NO_SLOTS) {
            Expect.refused("remove by slot " + slot, Expect.INDEX, x -> x.remove(0, slot));
        }
        Expect.refused("remove by slot NONE", Expect.INDEX, x -> x.remove(0, NONE));
        Expect.refused("remove by an empty slot", Expect.STATE, x -> x.remove(0, 4));
    }

    private static void updateOrdinary() {
        TruthFilters x = Expect.put(fourRows(), 0, "a=1");
        Expect.that("update", x.update(0, 0, 2, 5), 2);
        Expect.that("the table", Expect.table(x, 0), "1,9,5,0;-1,8,0,0;3,7,0,0;1,6,5,0");
        Expect.that("update to what it is", x.update(0, 0, 2, 5), 2);
        Expect.that("update of its own column", x.update(0, 0, 0, U), 2);
        Expect.that("the table", Expect.table(x, 0), "-1,9,5,0;-1,8,0,0;3,7,0,0;-1,6,5,0");
        Expect.that("no row then", x.update(0, 0, 0, 7), 0);
        Expect.that("saved", x.count(6), 6);
        x.undo();
        Expect.that("undo", x.undo(), 4);
        Expect.that("the table", Expect.table(x, 0), "1,9,5,0;-1,8,0,0;3,7,0,0;1,6,5,0");
        Expect.that("table 1", x.update(1, 0, 3, 99), 1);
        Expect.that("table 1", Expect.table(x, 1), "1,1,1,99");
        Expect.that("update of the empty table", Expect.put(new TruthFilters(), 0, "a?").update(0, 0, 0, 0), 0);
    }

    private static void updateWithCheck() {
        TruthFilters x = Expect.put(fourRows(), 0, "a<b");
        x.check(0, 0);
        Expect.put(x, 1, "b>6");
        Expect.that("one would violate it", x.update(0, 1, 0, 7), NONE);
        Expect.that("no cell is changed", Expect.table(x, 0), "1,9,0,0;-1,8,0,0;3,7,0,0;1,6,0,0");
        Expect.that("refusals", x.count(5), 1);
        Expect.that("only the rows of the filter count", x.update(0, 1, 0, 6), 3);
        Expect.that("unknown violates nothing", x.update(0, 1, 1, U), 3);
        Expect.that("the table", Expect.table(x, 0), "6,-1,0,0;6,-1,0,0;6,-1,0,0;1,6,0,0");
        x.undo();
        x.undo();
        x.undo();
        Expect.that("refusals after undo", x.count(5), 0);
        Expect.put(x, 2, "b=6");
        Expect.that("the last row violates it", x.update(0, 2, 0, 6), NONE);
        Expect.that("another column does not", x.update(0, 2, 3, 6), 1);
    }

    private static void updateWrong() {
        for (int table : NO_TABLES) {
            Expect.refused("update of table " + table, Expect.INDEX, x -> x.update(table, 4, 0, 100));
        }
        for (int slot : NO_SLOTS) {
            Expect.refused("update by slot " + slot, Expect.INDEX, x -> x.update(0, slot, 0, 100));
        }
        for (int column : NO_COLUMNS) {
            Expect.refused("update of column " + column, Expect.INDEX, x -> x.update(0, 4, column, 100));
        }
        for (int value : new int[] {-2, 100, Integer.MAX_VALUE, Integer.MIN_VALUE}) {
            Expect.refused("update to " + value, Expect.ARGUMENT, x -> x.update(0, 0, 0, value));
            Expect.refused("update by nothing to " + value, Expect.ARGUMENT, x -> x.update(0, 4, 0, value));
        }
        Expect.refused("update by an empty slot", Expect.STATE, x -> x.update(0, 4, 0, 1));
    }

    private static void truth(TruthFilters x, String text, int due) {
        Expect.put(x, 0, text);
        Expect.that("truth of " + text, x.truth(0, 0, 0), due);
        for (int truth = 0; truth < 3; truth++) {
            for (int way = 0; way < 2; way++) {
                Expect.that("rows of " + text + " by way " + way, x.rows(0, 0, truth, way), truth == due ? 1 : 0);
            }
        }
    }

    private static void truthsOfTests() {
        TruthFilters x = withRow(5, 6, U, 5);
        truth(x, "a=5", 2);
        truth(x, "a=6", 0);
        truth(x, "a<5", 0);
        truth(x, "a<6", 2);
        truth(x, "a>5", 0);
        truth(x, "a>4", 2);
        truth(x, "a=d", 2);
        truth(x, "a=b", 0);
        truth(x, "a<b", 2);
        truth(x, "b<a", 0);
        truth(x, "b>a", 2);
        truth(x, "a>b", 0);
        truth(x, "a<a", 0);
        truth(x, "a=a", 2);
        truth(x, "c=5", 1);
        truth(x, "c<0", 1);
        truth(x, "c>99", 1);
        truth(x, "a=c", 1);
        truth(x, "c<a", 1);
        truth(x, "c=c", 1);
        truth(x, "c?", 2);
        truth(x, "a?", 0);
        truth(withRow(0, 99, 0, 0), "a=0&b=99", 2);
        truth(withRow(0, 99, 0, 0), "a<0|b>99", 0);
    }

    private static void truthsOfJoints() {
        TruthFilters x = withRow(1, U, 3, 4);
        String[] tests = {"a=2", "b=2", "a=1"};
        for (int one = 0; one < 3; one++) {
            truth(withRow(1, U, 3, 4), "!" + tests[one], 2 - one);
            truth(withRow(1, U, 3, 4), "!!" + tests[one], one);
            for (int other = 0; other < 3; other++) {
                truth(withRow(1, U, 3, 4), tests[one] + "&" + tests[other], Math.min(one, other));
                truth(withRow(1, U, 3, 4), tests[one] + "|" + tests[other], Math.max(one, other));
                truth(withRow(1, U, 3, 4), "!(" + tests[one] + "|" + tests[other] + ")", 2 - Math.max(one, other));
                truth(withRow(1, U, 3, 4), "!(" + tests[one] + "&" + tests[other] + ")", 2 - Math.min(one, other));
            }
        }
        truth(x, "a=1|a=2&a=2", 2);
        truth(x, "(a=1|a=2)&a=2", 0);
        truth(x, "a=2&a=2|a=1", 2);
        truth(x, "!a=2|a=1&a=2", 2);
        truth(x, "!a=1&a=2|b=1", 1);
        truth(x, "!(b=1)&!b?", 0);
    }

    private static void truthsWrong() {
        TruthFilters x = Expect.sample();
        Expect.that("truth of an empty slot", x.truth(0, 0, 4), NONE);
        Expect.that("unknown", x.truth(0, 1, 0), 1);
        Expect.that("table 1", x.truth(1, 0, 0), 2);
        for (int table : NO_TABLES) {
            Expect.refused("truth in table " + table, Expect.INDEX, y -> y.truth(table, 0, 0));
        }
        for (int row : new int[] {-1, 2, 16, Integer.MAX_VALUE, Integer.MIN_VALUE}) {
            Expect.refused("truth of row " + row, Expect.INDEX, y -> y.truth(0, row, 4));
            Expect.refused("certain of row " + row, Expect.INDEX, y -> y.certain(0, row, 4));
        }
        for (int slot : NO_SLOTS) {
            Expect.refused("truth of slot " + slot, Expect.INDEX, y -> y.truth(0, 0, slot));
        }
        Expect.refused("truth of row 1 of table 1", Expect.INDEX, y -> y.truth(1, 1, 0));
    }

    private static void rowsOfFilters() {
        TruthFilters x = new TruthFilters();
        for (int i = 0; i < 16; i++) {
            x.add(0, i % 3 == 0 ? U : i, i, U, 0);
        }
        Expect.put(x, 0, "a<8");
        Expect.put(x, 1, "a<8&b>3|c=b&!a?");
        int[] due = {0b0110_1101_0000_0000, 0b1001_0010_0100_1001, 0b0000_0000_1011_0110};
        for (int way = 0; way < 2; way++) {
            for (int truth = 0; truth < 3; truth++) {
                Expect.that("rows of a<8", x.rows(0, 0, truth, way), due[truth]);
                Expect.that("rows of table 1", x.rows(1, 0, truth, way), 0);
                Expect.that("rows of an empty slot", x.rows(0, 4, truth, way), NONE);
            }
        }
        for (int truth = 0; truth < 3; truth++) {
            int byRow = 0;
            for (int r = 0; r < 16; r++) {
                byRow |= x.truth(0, r, 1) == truth ? 1 << r : 0;
            }
            Expect.that("rows by rows", x.rows(0, 1, truth, 0), byRow);
            Expect.that("rows by bit sets", x.rows(0, 1, truth, 1), byRow);
        }
        Expect.put(x, 2, "d=0");
        Expect.that("all rows by rows", x.rows(0, 2, 2, 0), 65535);
        Expect.that("all rows by bit sets", x.rows(0, 2, 2, 1), 65535);
        Expect.that("no row by bit sets", x.rows(0, 2, 1, 1), 0);
    }

    private static void rowsWrong() {
        for (int table : NO_TABLES) {
            Expect.refused("rows of table " + table, Expect.INDEX, x -> x.rows(table, 0, 3, 2));
        }
        for (int slot : NO_SLOTS) {
            Expect.refused("rows by slot " + slot, Expect.INDEX, x -> x.rows(0, slot, 3, 2));
        }
        for (int truth : new int[] {-1, 3, Integer.MAX_VALUE, Integer.MIN_VALUE}) {
            Expect.refused("rows of truth " + truth, Expect.ARGUMENT, x -> x.rows(0, 0, truth, 0));
            Expect.refused("rows of an empty slot of truth " + truth, Expect.ARGUMENT, x -> x.rows(0, 4, truth, 0));
        }
        for (int way : new int[] {-1, 2, Integer.MAX_VALUE, Integer.MIN_VALUE}) {
            Expect.refused("rows by way " + way, Expect.ARGUMENT, x -> x.rows(0, 0, 0, way));
            Expect.refused("rows of an empty slot by way " + way, Expect.ARGUMENT, x -> x.rows(0, 4, 0, way));
        }
    }

    private static void compared() {
        TruthFilters x = new TruthFilters();
        // Each pair of truth values of a=1 and b=1 once, and TRUE with UNKNOWN twice.
        int[] cells = {2, U, 1};
        for (int one : cells) {
            for (int other : cells) {
                x.add(0, one, other, 0, 0);
            }
        }
        x.add(0, 1, U, 0, 0);
        Expect.put(x, 0, "a=1");
        Expect.put(x, 1, "b=1");
        Expect.that("same truth", x.compare(0, 0, 1, 0), 3);
        Expect.that("TRUE and not", x.compare(0, 0, 1, 1), 3);
        Expect.that("not and TRUE", x.compare(0, 1, 0, 1), 2);
        Expect.that("less", x.compare(0, 0, 1, 2), 3);
        Expect.that("greater", x.compare(0, 1, 0, 2), 4);
        Expect.that("with itself", x.compare(0, 0, 0, 0), 10);
        Expect.that("not with itself", x.compare(0, 0, 0, 1) + x.compare(0, 0, 0, 2), 0);
        Expect.that("the empty table", x.compare(1, 0, 1, 0), 0);
        Expect.that("an empty slot", x.compare(0, 0, 2, 0), NONE);
        Expect.that("another empty slot", x.compare(0, 2, 0, 1), NONE);
        Expect.that("an empty slot, the empty table", x.compare(1, 2, 3, 2), NONE);
    }

    private static void comparedWrong() {
        for (int table : NO_TABLES) {
            Expect.refused("compare in table " + table, Expect.INDEX, x -> x.compare(table, 0, 1, 3));
        }
        for (int slot : NO_SLOTS) {
            Expect.refused("compare of slot " + slot, Expect.INDEX, x -> x.compare(0, slot, 1, 3));
            Expect.refused("compare with slot " + slot, Expect.INDEX, x -> x.compare(0, 1, slot, 3));
        }
        for (int what : new int[] {-1, 3, Integer.MAX_VALUE, Integer.MIN_VALUE}) {
            Expect.refused("compare by " + what, Expect.ARGUMENT, x -> x.compare(0, 0, 1, what));
            Expect.refused("compare of nothing by " + what, Expect.ARGUMENT, x -> x.compare(0, 4, 1, what));
        }
    }

    private static void certain(int a, int b, int c, int d, String text, int due) {
        TruthFilters x = Expect.put(withRow(a, b, c, d), 0, text);
        String before = Expect.look(x);
        Expect.that("certain of " + text + " for " + Expect.rowText(x, 0, 0), x.certain(0, 0, 0), due);
        Expect.that("nothing changes", Expect.look(x), before);
    }

    private static void certainOrdinary() {
        certain(1, 2, 3, 4, "a=1", 2);
        certain(1, 2, 3, 4, "a=2", 0);
        certain(U, 2, 3, 4, "a=2", 1);
        certain(U, 2, 3, 4, "a=a", 2);
        certain(U, 2, 3, 4, "a<a", 0);
        certain(U, 2, 3, 4, "a=2|!a=2", 2);
        certain(U, 2, 3, 4, "a=2&!a=2", 0);
        certain(U, 2, 3, 4, "a<5|a>4", 2);
        certain(U, 2, 3, 4, "a<5|a>5", 1);
        certain(U, 2, 3, 4, "a<b|a=b|a>b", 2);
        certain(U, 2, 3, 4, "b=2|a=1", 2);
        certain(U, 2, 3, 4, "b=1&a=1", 0);
        certain(U, U, 3, 4, "a<b|a=b|a>b", 2);
        certain(U, U, 3, 4, "a<b&b<a", 0);
        certain(U, U, 3, 4, "a<b|b<a", 1);
        certain(U, U, 3, 4, "a=b", 1);
        certain(U, U, U, 4, "a=b", 1);
        certain(U, U, U, 4, "a=b|c=1", NONE);
        certain(U, U, U, U, "a=b|c=d", NONE);
        certain(U, U, 3, 4, "a=b|c=d", 1);
        certain(U, U, 3, 4, "a=b|c<d", 2);
        certain(U, 2, 3, 4, "a?", 2);
        certain(U, 2, 3, 4, "!a?", 0);
        certain(U, 2, 3, 4, "a?&a=a", 2);
        certain(U, 2, 3, 4, "b?|a=a", 2);
        certain(U, 2, 3, 4, "b?", 0);
        certain(U, U, U, 4, "a?&b?&c?", NONE);
        certain(U, U, U, 4, "a?&b?", 2);
        certain(U, U, U, 4, "a=1&b=1&c?", NONE);
        certain(U, U, U, 4, "d=4", 2);
        certain(50, U, 3, 4, "b=a", 1);
        certain(50, U, 3, U, "b<a&d>a", 1);
        certain(3, 4, U, 50, "c<d|c>d", 1);
        TruthFilters x = Expect.put(fourRows(), 0, "a=1|a=3");
        int[] due = {2, 1, 2, 2};
        for (int r = 0; r < 4; r++) {
            Expect.that("certain of row " + r, x.certain(0, r, 0), due[r]);
        }
        Expect.that("certain of table 1 after that", x.certain(1, 0, 0), 2);
        Expect.put(x, 0, "!(a=1&c=0)");
        Expect.that("certain of table 0", x.certain(0, 3, 0), 0);
        Expect.that("and then of table 1", x.certain(1, 0, 0), 2);
    }

    private static void certainAtEdges() {
        certain(U, 2, 3, 4, "a<0", 0);
        certain(U, 2, 3, 4, "a>99", 0);
        certain(U, 2, 3, 4, "a<99|a=99", 2);
        certain(U, 2, 3, 4, "a>0|a=0", 2);
        certain(U, 2, 3, 4, "a<99", 1);
        certain(U, 2, 3, 4, "a>0", 1);
        certain(U, 2, 3, 4, "a>98&a<99", 0);
        certain(U, 0, 3, 4, "a<b", 0);
        certain(U, 99, 3, 4, "a>b", 0);
        certain(U, 99, 3, 4, "a<b", 1);
        certain(U, U, 3, 4, "a>98&b>a", 0);
        certain(U, U, 3, 4, "a>97&b>a", 1);
        certain(U, U, 3, 4, "a<1&b<a", 0);
        certain(U, U, 3, 4, "a<2&b<a", 1);
        certain(U, U, 3, 4, "!(a>40&a<b&b<42)", 2);
        certain(U, U, 3, 4, "!(a>40&a<b&b<43)", 1);
        certain(U, U, 3, 4, "!(a>40&b>40&a<42&b<42)|a=b", 2);
        certain(U, U, 3, 4, "!(a>40&b>40&a<43&b<43)|a=b", 1);
        certain(U, U, 3, 5, "!(a>c&b>c&a<d&b<d)|a=b", 2);
        certain(U, U, 3, 6, "!(a>c&b>c&a<d&b<d)|a=b", 1);
        certain(U, U, 3, 6, "a=1&b=1|a=1&!b=1|!a=1", 2);
    }

    private static void certainWrong() {
        TruthFilters x = Expect.sample();
        Expect.that("certain of an empty slot", x.certain(0, 0, 4), NONE);
        Expect.that("certain in table 1", x.certain(1, 0, 0), 2);
        for (int table : NO_TABLES) {
            Expect.refused("certain in table " + table, Expect.INDEX, y -> y.certain(table, 0, 0));
        }
        for (int slot : NO_SLOTS) {
            Expect.refused("certain of slot " + slot, Expect.INDEX, y -> y.certain(0, 0, slot));
        }
        Expect.refused("certain of row 1 of table 1", Expect.INDEX, y -> y.certain(1, 1, 0));
    }
}
