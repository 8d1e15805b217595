/** Promises 1 to 4 and 16 to 18: tables, their rows, cells, columns and groups. */
public final class TablesTest {
    private static final int U = Expect.U;
    private static final int NONE = Expect.NONE;
    private static final int[] NO_TABLES = {-1, 2, Integer.MAX_VALUE, Integer.MIN_VALUE, NONE};
    private static final int[] NO_COLUMNS = {-1, 4, Integer.MAX_VALUE, Integer.MIN_VALUE, NONE};
    private static final int[] NO_CELLS = {-2, 100, Integer.MAX_VALUE, Integer.MIN_VALUE};

    public static void main(String[] args) {
        newObject();
        addOrdinary();
        addWithCheck();
        addWrong();
        changeOrdinary();
        changeWithCheck();
        changeWrong();
        dropOrdinary();
        dropWrong();
        cells();
        columns();
        columnsWrong();
        groups();
        groupsWrong();
        Expect.end();
    }

    private static TruthFilters fullTable() {
        TruthFilters x = new TruthFilters();
        for (int i = 0; i < 16; i++) {
            Expect.that("add of row " + i, x.add(0, i, 99, 0, U), i);
        }
        return x;
    }

    private static void newObject() {
        TruthFilters x = new TruthFilters();
        Expect.that("constant UNKNOWN_CELL", TruthFilters.UNKNOWN_CELL, -1);
        Expect.that("constant NONE", TruthFilters.NONE, -2);
        Expect.that("new object", Expect.look(x), "/ - - - - - - 0 0 0 0 0 0 0 0 0");
        Expect.that("undo of new object", Expect.outcome(x::undo), "java.lang.IllegalStateException");
        for (int slot = 0; slot < 2; slot++) {
            int from = slot;
            Expect.that("goBack of new object", Expect.outcome(() -> x.goBack(from)),
                    "java.lang.IllegalStateException");
        }
        TruthFilters other = new TruthFilters();
        x.add(0, 1, 2, 3, 4);
        Expect.that("objects share nothing", other.count(0), 0);
    }

    private static void addOrdinary() {
        TruthFilters x = new TruthFilters();
        Expect.that("first add", x.add(0, 0, 99, U, 5), 0);
        Expect.that("second add", x.add(0, U, U, U, U), 1);
        Expect.that("add to the other table", x.add(1, 7, 8, 9, 10), 0);
        Expect.that("table 0", Expect.table(x, 0), "0,99,-1,5;-1,-1,-1,-1");
        Expect.that("table 1", Expect.table(x, 1), "7,8,9,10");
        Expect.that("saved states", x.count(6), 3);
        Expect.that("undo of add", x.undo(), 2);
        Expect.that("rows after undo", x.count(1), 0);
        TruthFilters full = fullTable();
        Expect.that("the other table has room", full.add(1, 0, 0, 0, 0), 0);
        full.drop(0, 3);
        Expect.that("room after drop", full.add(0, 1, 1, 1, 1), 15);
    }

    private static void addWithCheck() {
        TruthFilters x = Expect.put(new TruthFilters(), 0, "a<5");
        x.check(0, 0);
        Expect.that("true check", x.add(0, 4, 0, 0, 0), 0);
        Expect.that("unknown check", x.add(0, U, 0, 0, 0), 1);
        Expect.that("false check", x.add(0, 5, 0, 0, 0), NONE);
        Expect.that("rows", x.count(0), 2);
        Expect.that("refusals", x.count(5), 1);
        Expect.that("a refusal is undoable", x.count(6), 5);
        Expect.that("the other table has no check", x.add(1, 5, 0, 0, 0), 0);
        x.undo();
        Expect.that("undo of the refusal", x.undo(), 4);
        Expect.that("refusals after undo", x.count(5), 0);
        Expect.that("rows after undo", x.count(0), 2);
    }

    private static void addWrong() {
        for (int table : NO_TABLES) {
            Expect.refused("add to table " + table, Expect.INDEX, x -> x.add(table, 1, 2, 3, 4));
            Expect.refused("add to table " + table + " with a bad cell", Expect.INDEX, x -> x.add(table, 100, 2, 3, 4));
        }
        for (int cell : NO_CELLS) {
            Expect.refused("add a", Expect.ARGUMENT, x -> x.add(0, cell, 1, 1, 1));
            Expect.refused("add b", Expect.ARGUMENT, x -> x.add(1, 1, cell, 1, 1));
            Expect.refused("add c", Expect.ARGUMENT, x -> x.add(0, 1, 1, cell, 1));
            Expect.refused("add d", Expect.ARGUMENT, x -> x.add(1, 1, 1, 1, cell));
        }
        Expect.that("add to the full table", Expect.outcome(() -> fullTable().add(0, 1, 1, 1, 1)),
                "java.lang.IllegalStateException");
        Expect.that("bad cell for the full table", Expect.outcome(() -> fullTable().add(0, 1, 1, 1, -2)),
                "java.lang.IllegalArgumentException");
        TruthFilters x = fullTable();
        Expect.outcome(() -> x.add(0, 1, 1, 1, 1));
        Expect.that("the full table stays", Expect.look(x), Expect.look(fullTable()));
        x.undo();
        Expect.that("nothing was saved", x.count(0), 15);
        TruthFilters checked = Expect.put(fullTable(), 0, "b=99");
        checked.check(0, 0);
        Expect.that("a full table is told before the check", Expect.outcome(() -> checked.add(0, 0, 0, 0, 0)),
                "java.lang.IllegalStateException");
        Expect.that("no refusal was counted", checked.count(5), 0);
    }

    private static void changeOrdinary() {
        TruthFilters x = new TruthFilters();
        x.add(0, 1, 2, 3, 4);
        x.add(0, 5, 6, 7, 8);
        x.add(1, 9, 9, 9, 9);
        Expect.that("change", x.change(0, 1, 2, 99), 7);
        Expect.that("change to unknown", x.change(0, 0, 0, U), 1);
        Expect.that("change of unknown", x.change(0, 0, 0, 0), U);
        Expect.that("change to the same", x.change(1, 0, 3, 9), 9);
        Expect.that("tables", Expect.table(x, 0) + "/" + Expect.table(x, 1), "0,2,3,4;5,6,99,8/9,9,9,9");
        Expect.that("all are saved", x.count(6), 6);
        x.undo();
        x.undo();
        Expect.that("undo", Expect.table(x, 0), "-1,2,3,4;5,6,99,8");
    }

    private static void changeWithCheck() {
        TruthFilters x = Expect.put(new TruthFilters(), 0, "a<b");
        x.add(0, 1, 2, 3, 4);
        x.check(0, 0);
        Expect.that("refused change", x.change(0, 0, 1, 1), NONE);
        Expect.that("the cell stays", x.cell(0, 0, 1), 2);
        Expect.that("refusals", x.count(5), 1);
        Expect.that("saved", x.count(6), 4);
        Expect.that("unknown is not refused", x.change(0, 0, 1, U), 2);
        Expect.that("change of another column", x.change(0, 0, 3, U), 4);
        Expect.that("unknown to a true one", x.change(0, 0, 1, 50), U);
    }

    private static void changeWrong() {
        for (int table : NO_TABLES) {
            Expect.refused("change table " + table, Expect.INDEX, x -> x.change(table, 0, 0, 100));
        }
        for (int row : new int[] {-1, 2, 16, Integer.MAX_VALUE, Integer.MIN_VALUE}) {
            Expect.refused("change row " + row, Expect.INDEX, x -> x.change(0, row, 0, 100));
        }
        Expect.refused("change row 1 of table 1", Expect.INDEX, x -> x.change(1, 1, 0, 1));
        for (int column : NO_COLUMNS) {
            Expect.refused("change column " + column, Expect.INDEX, x -> x.change(0, 0, column, 100));
        }
        for (int value : NO_CELLS) {
            Expect.refused("change to " + value, Expect.ARGUMENT, x -> x.change(0, 0, 0, value));
        }
    }

    private static void dropOrdinary() {
        TruthFilters x = new TruthFilters();
        x.add(0, 1, 1, 1, 1);
        x.add(0, 2, 2, 2, U);
        x.add(0, 3, 3, 3, 3);
        x.add(1, 4, 4, 4, 4);
        Expect.that("drop", x.drop(0, 1), 2);
        Expect.that("later rows move", Expect.table(x, 0), "1,1,1,1;3,3,3,3");
        Expect.that("drop the last", x.drop(0, 1), 1);
        x.undo();
        Expect.that("undo of drop", x.undo(), 4);
        Expect.that("rows are back", Expect.table(x, 0), "1,1,1,1;2,2,2,-1;3,3,3,3");
        Expect.that("drop the first", x.drop(0, 0), 2);
        Expect.that("rows are left", Expect.table(x, 0), "2,2,2,-1;3,3,3,3");
        Expect.that("drop the only one", x.drop(1, 0), 0);
        TruthFilters full = fullTable();
        Expect.that("drop row 15", full.drop(0, 15), 15);
        Expect.that("drop row 0", full.drop(0, 0), 14);
        Expect.that("what is row 0 then", full.cell(0, 0, 0), 1);
        Expect.that("what is row 13 then", full.cell(0, 13, 0), 14);
    }

    private static void dropWrong() {
        for (int table : NO_TABLES) {
            Expect.refused("drop of table " + table, Expect.INDEX, x -> x.drop(table, 0));
        }
        for (int row : new int[] {-1, 2, 16, 32, Integer.MAX_VALUE, Integer.MIN_VALUE}) {
            Expect.refused("drop row " + row, Expect.INDEX, x -> x.drop(0, row));
        }
        Expect.refused("drop row 1 of table 1", Expect.INDEX, x -> x.drop(1, 1));
    }

    private static void cells() {
        TruthFilters x = Expect.sample();
        Expect.that("row 0 of table 0", Expect.rowText(x, 0, 0), "3,-1,5,8");
        Expect.that("row 1 of table 0", Expect.rowText(x, 0, 1), "-1,2,5,7");
        Expect.that("row 0 of table 1", Expect.rowText(x, 1, 0), "3,3,-1,1");
        for (int table : NO_TABLES) {
            Expect.refused("cell of table " + table, Expect.INDEX, y -> y.cell(table, 0, 0));
        }
        for (int row : new int[] {-1, 2, 16, Integer.MAX_VALUE, Integer.MIN_VALUE}) {
            Expect.refused("cell of row " + row, Expect.INDEX, y -> y.cell(0, row, 0));
        }
        Expect.refused("cell of row 1 of table 1", Expect.INDEX, y -> y.cell(1, 1, 0));
        for (int column : NO_COLUMNS) {
            Expect.refused("cell of column " + column, Expect.INDEX, y -> y.cell(0, 0, column));
        }
    }

    private static String columnText(TruthFilters x, int table, int column) {
        StringBuilder text = new StringBuilder();
        for (int what = 0; what < 7; what++) {
            text.append(what == 0 ? "" : " ").append(x.column(table, column, what));
        }
        return text.toString();
    }

    private static void columns() {
        TruthFilters x = new TruthFilters();
        Expect.that("column without rows", columnText(x, 0, 0), "0 0 0 -2 -2 0 -2");
        x.add(0, 5, U, 0, 99);
        x.add(0, 2, U, 0, 99);
        x.add(0, U, U, 0, U);
        x.add(0, 5, U, U, 98);
        x.add(1, 1, 1, 1, 1);
        Expect.that("column a", columnText(x, 0, 0), "3 1 12 2 5 2 4");
        Expect.that("column b", columnText(x, 0, 1), "0 4 0 -2 -2 0 -2");
        Expect.that("column c", columnText(x, 0, 2), "3 1 0 0 0 1 0");
        Expect.that("column d", columnText(x, 0, 3), "3 1 296 98 99 2 98");
        Expect.that("column of table 1", columnText(x, 1, 0), "1 0 1 1 1 1 1");
        Expect.that("a query saves nothing", x.count(6), 5);
        TruthFilters full = fullTable();
        Expect.that("full column a", columnText(full, 0, 0), "16 0 120 0 15 16 7");
        Expect.that("full column b", columnText(full, 0, 1), "16 0 1584 99 99 1 99");
    }

    private static void columnsWrong() {
        for (int table : NO_TABLES) {
            Expect.refused("column of table " + table, Expect.INDEX, x -> x.column(table, 0, 7));
        }
        for (int column : NO_COLUMNS) {
            Expect.refused("column " + column, Expect.INDEX, x -> x.column(0, column, 7));
        }
        for (int what : new int[] {-1, 7, Integer.MAX_VALUE, Integer.MIN_VALUE}) {
            Expect.refused("column by " + what, Expect.ARGUMENT, x -> x.column(0, 0, what));
        }
    }

    private static String groupText(TruthFilters x, int table, int column, int group) {
        StringBuilder text = new StringBuilder();
        for (int what = 0; what < 8; what++) {
            text.append(what == 0 ? "" : " ").append(x.group(table, column, group, what));
        }
        return text.toString();
    }

    private static void groups() {
        String none = "-2 -2 -2 -2 -2 -2 -2 -2";
        TruthFilters x = new TruthFilters();
        Expect.that("group without rows", groupText(x, 0, 0, 0), none);
        x.add(0, 7, 1, U, U);
        x.add(0, U, 2, 20, U);
        x.add(0, 0, 3, U, 9);
        x.add(0, 7, U, 40, 9);
        x.add(0, U, 5, 50, U);
        x.add(0, 99, 6, 60, 9);
        x.add(1, 4, 5, 6, 7);
        Expect.that("group of the unknown", groupText(x, 0, 0, 0), "-1 18 0 7 70 0 2 4");
        Expect.that("group of 0", groupText(x, 0, 0, 1), "0 4 0 3 0 9 1 1");
        Expect.that("group of 7", groupText(x, 0, 0, 2), "7 9 14 1 40 9 2 3");
        Expect.that("group of 99", groupText(x, 0, 0, 3), "99 32 99 6 60 9 1 0");
        Expect.that("no such group", groupText(x, 0, 0, 4), none);
        Expect.that("no such group by far", groupText(x, 0, 0, Integer.MAX_VALUE), none);
        Expect.that("no unknown cells, so values first", groupText(x, 1, 0, 0), "4 1 4 5 6 7 1 0");
        Expect.that("the only group", groupText(x, 1, 0, 1), none);
        Expect.that("all different", groupText(fullTable(), 0, 0, 15), "15 32768 15 99 0 0 1 1");
        Expect.that("all the same", groupText(fullTable(), 0, 3, 0), "-1 65535 120 1584 0 0 16 16");
    }

    private static void groupsWrong() {
        for (int table : NO_TABLES) {
            Expect.refused("group of table " + table, Expect.INDEX, x -> x.group(table, 0, -1, 8));
        }
        for (int column : NO_COLUMNS) {
            Expect.refused("group by column " + column, Expect.INDEX, x -> x.group(0, column, -1, 8));
        }
        Expect.refused("group -1", Expect.ARGUMENT, x -> x.group(0, 0, -1, 0));
        Expect.refused("group least", Expect.ARGUMENT, x -> x.group(0, 0, Integer.MIN_VALUE, 0));
        for (int what : new int[] {-1, 8, Integer.MAX_VALUE, Integer.MIN_VALUE}) {
            Expect.refused("group by " + what, Expect.ARGUMENT, x -> x.group(0, 0, 0, what));
            Expect.refused("no such group by " + what, Expect.ARGUMENT, x -> x.group(0, 0, 99, what));
        }
    }
}
