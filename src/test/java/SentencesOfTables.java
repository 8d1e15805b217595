/** The sentences of the promises 1 to 4 and 16 to 18. */
final class SentencesOfTables extends Sentences {
    SentencesOfTables(Document document) {
        super(document);
    }

    @Override
    void all() {
        newObject();
        add();
        change();
        drop();
        cell();
        column();
        group();
    }

    private void newObject() {
        section("Promise 1: A new object");
        holds("Creates empty tables.", () -> {
            TruthFilters x = new TruthFilters();
            for (int table = 0; table < 2; table++) {
                int empty = table;
                that("rows", x.count(table), 0);
                that("a cell", Expect.thrown(x, y -> y.cell(empty, 0, 0)), INDEX);
                that("numbers of a column", answers(7, x, (y, n) -> y.column(empty, 0, n)), "0 0 0 -2 -2 0 -2");
                that("a group", x.group(table, 0, 0, 0), NONE);
            }
            that("numbers of the join", answers(4, x, (y, n) -> y.join(0, 0, n)), "0 0 0 -2");
            that("all counts", answers(8, x, (y, n) -> y.count(n)), "0 0 0 0 0 0 0 0");
            x.add(0, 1, 2, 3, 4);
            that("another object", new TruthFilters().count(0), 0);
        });
    }

    private void add() {
        section("Promise 2: add");
        holds("Adds a row to a table, unless it would violate the check.", () -> {
            TruthFilters x = filtered("a<5");
            x.check(0, 0);
            that("a row for which the check is TRUE", x.add(0, 4, 0, 99, U), 0);
            that("a row for which it is UNKNOWN", x.add(0, U, U, U, U), 1);
            that("a row for which it is FALSE", x.add(0, 5, 1, 1, 1), NONE);
            that("a row of the table without a check", x.add(1, 5, 1, 1, 1), 0);
            that("the table 0", Expect.table(x, 0), "4,0,99,-1;-1,-1,-1,-1");
            that("the table 1", Expect.table(x, 1), "5,1,1,1");
        });
        holds("Undoable, also if it is refused.", () -> {
            undoable("the first add", TruthFilters::new, x -> x.add(1, 1, 2, 3, 4), 0);
            undoable("the last add", SentencesOfTables::fifteen, x -> x.add(0, 1, 2, 3, U), 15);
            undoable("an add that is refused", () -> checked("a<5"), x -> x.add(1, 5, 2, 3, 4), NONE);
        });
        holds("- `table`: 0 or 1", () -> only(0, 1, INDEX, Expect::sample, (x, n) -> x.add(n, 1, 2, 3, 4)));
        holds("- `a`: 0 to 99, or UNKNOWN_CELL", () -> cellIsKept(0, (x, n) -> x.add(1, n, 1, 2, 3)));
        holds("- `b`: likewise", () -> cellIsKept(1, (x, n) -> x.add(1, 1, n, 2, 3)));
        holds("- `c`: likewise", () -> cellIsKept(2, (x, n) -> x.add(1, 1, 2, n, 3)));
        holds("- `d`: likewise", () -> cellIsKept(3, (x, n) -> x.add(1, 1, 2, 3, n)));
        holds("Returns the number of the row; NONE if it is refused.", () -> {
            TruthFilters x = checked("a<16");
            for (int r = 0; r < 16; r++) {
                that("refused before the row " + r, x.add(1, 16, r, r, r), NONE);
                that("the row " + r, x.add(1, r, r, r, r), r);
            }
            x.drop(1, 0);
            that("the row behind 15 others", x.add(1, 0, 0, 0, 0), 15);
        });
        holds("Throws `IndexOutOfBoundsException` if there is no such table", () -> noTable((x, n) -> x.add(n, 1, 1, 1,
                1)));
        holds("Throws `IllegalArgumentException` if a cell is out of range", () -> {
            badValue((x, n) -> x.add(0, n, 1, 1, 1));
            badValue((x, n) -> x.add(0, 1, n, 1, 1));
            badValue((x, n) -> x.add(1, 1, 1, n, 1));
            badValue((x, n) -> x.add(1, U, U, U, n));
        });
        holds("Throws `IllegalStateException` if the table has 16 rows", () -> {
            refused("add to the full table 0", STATE, Sentences::full, x -> x.add(0, 1, 2, 3, 4));
            refused("add to the full table 1", STATE, Sentences::full, x -> x.add(1, U, U, U, U));
            refused("add of a row against the check", STATE, SentencesOfTables::fullWithCheck, x -> x.add(0, 99, 0, 0,
                    0));
            that("add to 15 rows", fifteen().add(0, 1, 2, 3, 4), 15);
            TruthFilters x = full();
            x.drop(0, 7);
            that("add when a row is gone", x.add(0, 1, 2, 3, 4), 15);
            that("add then", Expect.thrown(x, y -> y.add(0, 1, 2, 3, 4)), STATE);
            that("the other table is full on its own", fifteen().add(1, 1, 1, 1, 1), 0);
        });
    }

    private static TruthFilters fifteen() {
        TruthFilters x = new TruthFilters();
        fill(x, 0, 15);
        return x;
    }

    private static TruthFilters fullWithCheck() {
        TruthFilters x = full();
        Expect.put(x, 0, "a<50");
        x.check(0, 0);
        return x;
    }

    private static void cellIsKept(int column, Given add) {
        only(U, 99, ARGUMENT, Expect::sample, add);
        for (int n = U; n <= 99; n++) {
            TruthFilters x = new TruthFilters();
            that("the row", add.on(x, n), 0);
            that("the cell", x.cell(1, 0, column), n);
        }
    }

    private void change() {
        section("Promise 3: change");
        holds("Changes a cell, unless the row would violate the check then.", () -> {
            TruthFilters x = filtered("a<b");
            fill(x, 1, 2);
            x.add(0, 1, 2, 3, 4);
            x.check(0, 0);
            that("change", x.change(0, 0, 3, 50), 4);
            that("change to FALSE", x.change(0, 0, 0, 2), NONE);
            that("change to UNKNOWN", x.change(0, 0, 0, U), 1);
            that("from there to FALSE", x.change(0, 0, 0, 99), NONE);
            that("from there to TRUE", x.change(0, 0, 0, 0), U);
            that("in the table without a check", x.change(1, 1, 0, 99), 1);
            that("the table 0", Expect.table(x, 0), "0,2,3,50");
            that("the table 1", Expect.table(x, 1), "0,0,0,0;99,1,1,1");
        });
        holds("Undoable, also if it is refused.", () -> {
            undoable("change", Sentences::full, x -> x.change(1, 15, 3, U), 0);
            undoable("a change that is refused", Expect::sample, x -> x.change(0, 0, 0, 9), NONE);
        });
        holds("- `table`: 0 or 1", () -> only(0, 1, INDEX, Expect::sample, (x, n) -> x.change(n, 0, 3, 4)));
        holds("- `row`: its number", () -> {
            only(0, 15, INDEX, Sentences::full, (x, n) -> x.change(1, n, 3, 4));
            only(0, 1, INDEX, Expect::sample, (x, n) -> x.change(0, n, 3, 4));
            only(0, 0, INDEX, Expect::sample, (x, n) -> x.change(1, n, 3, 4));
            TruthFilters x = full();
            x.change(0, 15, 2, 8);
            that("only this row is changed", answers(16, x, (y, r) -> y.cell(0, r, 2)),
                    "7 7 7 7 7 7 7 7 7 7 7 7 7 7 7 8");
        });
        holds("- `column`: 0 to 3", () -> {
            only(0, 3, INDEX, Expect::sample, (x, n) -> x.change(0, 0, n, 4));
            for (int k = 0; k < 4; k++) {
                TruthFilters x = withRow("a?", 1, 1, 1, 1);
                x.change(0, 0, k, 2);
                that("the cells", answers(4, x, (y, n) -> y.cell(0, 0, n)), "1 1 1 1".substring(0, 2 * k) + 2
                        + "1 1 1 1".substring(2 * k + 1));
            }
        });
        holds("- `value`: 0 to 99, or UNKNOWN_CELL", () -> {
            only(U, 99, ARGUMENT, Expect::sample, (x, n) -> x.change(1, 0, 2, n));
            for (int n = U; n <= 99; n++) {
                TruthFilters x = Expect.sample();
                x.change(1, 0, 2, n);
                that("the cell", x.cell(1, 0, 2), n);
            }
        });
        holds("Returns the previous value, or UNKNOWN_CELL; NONE if the change is refused.", () -> {
            TruthFilters x = withRow("a<99", 0, 0, 0, 0);
            x.check(0, 0);
            that("from 0", x.change(0, 0, 0, 98), 0);
            that("from 98", x.change(0, 0, 0, U), 98);
            that("from unknown", x.change(0, 0, 0, U), U);
            that("refused", x.change(0, 0, 0, 99), NONE);
            that("from unknown again", x.change(0, 0, 0, 5), U);
            that("another column", x.change(0, 0, 1, 99), 0);
            that("from 99", x.change(0, 0, 1, 99), 99);
        });
        holds("Throws `IndexOutOfBoundsException` if there is no such table, row or column", () -> {
            noTable((x, n) -> x.change(n, 0, 0, 1));
            noRow(0, (x, n) -> x.change(0, n, 0, 1));
            noRow(1, (x, n) -> x.change(1, n, 0, 1));
            noColumn((x, n) -> x.change(0, 0, n, 1));
        });
        holds("Throws `IllegalArgumentException` if value is out of range", () -> {
            badValue((x, n) -> x.change(0, 0, 0, n));
            badValue((x, n) -> x.change(1, 0, 3, n));
        });
    }

    private void drop() {
        section("Promise 4: drop");
        holds("Removes a row.", () -> {
            TruthFilters x = full();
            x.drop(1, 15);
            x.drop(1, 0);
            x.drop(1, 7);
            that("the rows that are left", answers(13, x, (y, r) -> y.cell(1, r, 0)), "1 2 3 4 5 6 7 9 10 11 12 13 14");
            that("the other table", x.count(0), 16);
            TruthFilters checked = checked("a=1");
            checked.add(0, 1, 2, 3, 4);
            that("a check hinders no removal", checked.drop(0, 0), 0);
            that("and is no refusal", checked.count(5), 0);
        });
        holds("Undoable.", () -> {
            undoable("drop of the first row", Sentences::full, x -> x.drop(0, 0), 15);
            undoable("drop of the last row", Sentences::full, x -> x.drop(1, 15), 15);
            undoable("drop of the only row", Expect::sample, x -> x.drop(1, 0), 0);
        });
        holds("- `table`: 0 or 1", () -> only(0, 1, INDEX, Expect::sample, (x, n) -> x.drop(n, 0)));
        holds("- `row`: its number", () -> {
            only(0, 15, INDEX, Sentences::full, (x, n) -> x.drop(0, n));
            only(0, 1, INDEX, Expect::sample, (x, n) -> x.drop(0, n));
            only(0, 0, INDEX, Expect::sample, (x, n) -> x.drop(1, n));
        });
        holds("Returns the number of rows that are left.", () -> {
            TruthFilters x = full();
            for (int left = 15; left >= 0; left--) {
                that("drop of the last row", x.drop(0, left), left);
                that("drop of the first row", x.drop(1, 0), left);
            }
        });
        holds("Throws `IndexOutOfBoundsException` if there is no such table or row", () -> {
            noTable((x, n) -> x.drop(n, 0));
            noRow(0, (x, n) -> x.drop(0, n));
            noRow(1, (x, n) -> x.drop(1, n));
        });
    }

    private void cell() {
        section("Promise 16: cell");
        holds("Returns a cell.", () -> {
            TruthFilters x = full();
            for (int r = 0; r < 16; r++) {
                that("a row of the table 0", Expect.rowText(x, 0, r), r + "," + (99 - r) + ",7,-1");
                that("a row of the table 1", Expect.rowText(x, 1, r), r + ",50," + r % 2 + ",0");
            }
        });
        holds("- `table`: 0 or 1", () -> only(0, 1, INDEX, Expect::sample, (x, n) -> x.cell(n, 0, 0)));
        holds("- `row`: its number", () -> {
            only(0, 15, INDEX, Sentences::full, (x, n) -> x.cell(0, n, 0));
            only(0, 1, INDEX, Expect::sample, (x, n) -> x.cell(0, n, 0));
            only(0, 0, INDEX, Expect::sample, (x, n) -> x.cell(1, n, 0));
        });
        holds("- `column`: 0 to 3", () -> only(0, 3, INDEX, Expect::sample, (x, n) -> x.cell(0, 0, n)));
        holds("Returns its value, or UNKNOWN_CELL.", () -> {
            TruthFilters x = withRow("a?", 0, 99, U, 1);
            that("the cells", answers(4, x, (y, k) -> y.cell(0, 0, k)), "0 99 -1 1");
        });
        holds("Throws `IndexOutOfBoundsException` if there is no such table, row or column", () -> {
            noTable((x, n) -> x.cell(n, 0, 0));
            noRow(0, (x, n) -> x.cell(0, n, 0));
            noRow(1, (x, n) -> x.cell(1, n, 0));
            noColumn((x, n) -> x.cell(0, 0, n));
            TruthFilters x = full();
            x.drop(0, 3);
            that("the last row when one is gone", Expect.thrown(x, y -> y.cell(0, 15, 0)), INDEX);
        });
    }

    private static void columnIs(TruthFilters x, int column, String due) {
        that("the numbers of the column " + column, answers(7, x, (y, what) -> y.column(0, column, what)), due);
    }

    private void column() {
        section("Promise 17: column");
        holds("Returns a number of a column of a table.", () -> {
            TruthFilters x = full();
            columnIs(x, 0, "16 0 120 0 15 16 7");
            columnIs(x, 1, "16 0 1464 84 99 16 91");
            columnIs(x, 2, "16 0 112 7 7 1 7");
            columnIs(x, 3, "0 16 0 -2 -2 0 -2");
            that("table 1", answers(7, x, (y, what) -> y.column(1, 2, what)), "16 0 8 0 1 2 0");
        });
        holds("- `table`: 0 or 1", () -> only(0, 1, INDEX, Expect::sample, (x, n) -> x.column(n, 0, 0)));
        holds("- `column`: 0 to 3", () -> only(0, 3, INDEX, Expect::sample, (x, n) -> x.column(0, n, 0)));
        columnNumbers();
        holds("Returns the number.", () -> {
            TruthFilters x = withRow("a?", 12, 0, 0, 0);
            that("the numbers of one cell", answers(7, x, (y, what) -> y.column(0, 0, what)), "1 0 12 12 12 1 12");
        });
        holds("Throws `IndexOutOfBoundsException` if there is no such table or column", () -> {
            noTable((x, n) -> x.column(n, 0, 0));
            noColumn((x, n) -> x.column(1, n, 6));
        });
        holds("Throws `IllegalArgumentException` if what is not 0 to 6", () -> notUpTo(6, (x, n) -> x.column(0, 0, n)));
    }

    private void columnNumbers() {
        TruthFilters none = new TruthFilters();
        TruthFilters unknown = withRow("a?", U, U, U, U);
        TruthFilters x = new TruthFilters();
        x.add(0, 5, 0, 99, 98);
        x.add(0, U, 0, 99, 99);
        x.add(0, 2, U, 99, 99);
        x.add(0, 5, 0, 99, 98);
        holds("- `what`: 0 the number of cells with a value,", () -> numberIs(0, none, unknown, x, "0 0 3 3 4 4"));
        holds("1 the number of unknown cells,", () -> numberIs(1, none, unknown, x, "0 1 1 1 0 0"));
        holds("2 the sum of the values,", () -> {
            numberIs(2, none, unknown, x, "0 0 12 0 396 394");
            TruthFilters most = new TruthFilters();
            for (int r = 0; r < 16; r++) {
                most.add(1, 99, 0, 0, 0);
            }
            that("the greatest sum", most.column(1, 0, 2), 1584);
            that("the least sum", most.column(1, 1, 2), 0);
        });
        holds("3 the least value,", () -> numberIs(3, none, unknown, x, "-2 -2 2 0 99 98"));
        holds("4 the greatest value (NONE for 3 and 4 without values),",
                () -> numberIs(4, none, unknown, x, "-2 -2 5 0 99 99"));
        holds("5 the number of different values,", () -> {
            numberIs(5, none, unknown, x, "0 0 2 1 1 2");
            that("all different", full().column(0, 0, 5), 16);
        });
        holds("6 the mean of the values, rounded down (NONE without values)",
                () -> numberIs(6, none, unknown, x, "-2 -2 4 0 99 98"));
    }

    /** Without rows, with one unknown cell, and of four columns. */
    private static void numberIs(int what, TruthFilters none, TruthFilters unknown, TruthFilters x, String due) {
        that("the number", none.column(0, 0, what) + " " + unknown.column(0, 0, what) + " "
                + answers(4, x, (y, column) -> y.column(0, column, what)), due);
    }

    private static TruthFilters groups() {
        TruthFilters x = new TruthFilters();
        x.add(0, 7, 1, U, U);
        x.add(0, U, 2, 20, U);
        x.add(0, 0, 3, U, 9);
        x.add(0, 7, U, 40, 9);
        x.add(0, U, 5, 50, U);
        x.add(0, 99, 6, 60, 9);
        x.add(1, 4, 4, U, 7);
        x.add(1, 3, 4, U, 7);
        return x;
    }

    private static void groupsAre(int table, int column, int what, String due) {
        that("the groups by the column " + column, answers(5, groups(), (x, n) -> x.group(table, column, n, what)),
                due);
    }

    private void group() {
        section("Promise 18: group");
        holds("Returns a number of a group.", () -> {
            that("all numbers of a group", answers(8, groups(), (x, what) -> x.group(0, 0, 2, what)),
                    "7 9 14 1 40 9 2 3");
            that("in the table 1", answers(8, groups(), (x, what) -> x.group(1, 1, 0, what)), "4 3 7 8 0 14 2 2");
        });
        holds("The rows with the same value in a column are a group,", () -> {
            groupsAre(0, 0, 1, "18 4 9 32 -2");
            groupsAre(0, 3, 1, "19 44 -2 -2 -2");
            groupsAre(1, 1, 1, "3 -2 -2 -2 -2");
        });
        holds("and the rows with an unknown cell in this column are one group.", () -> {
            groupsAre(0, 0, 0, "-1 0 7 99 -2");
            groupsAre(1, 2, 1, "3 -2 -2 -2 -2");
            that("sixteen unknown cells", full().group(0, 3, 0, 6), 16);
            that("one group", full().group(0, 3, 1, 6), NONE);
        });
        holds("The groups are numbered from 0: the group of the unknown cells first, if there are any, then the "
                + "others by their values in ascending order.", () -> {
                    groupsAre(0, 0, 0, "-1 0 7 99 -2");
                    groupsAre(0, 1, 0, "-1 1 2 3 5");
                    groupsAre(1, 0, 0, "3 4 -2 -2 -2");
                    TruthFilters x = new TruthFilters();
                    for (int r = 0; r < 16; r++) {
                        x.add(1, 99 - r, r == 7 ? U : 0, 0, 0);
                    }
                    that("sixteen groups", answers(17, x, (y, n) -> y.group(1, 0, n, 0)),
                            "84 85 86 87 88 89 90 91 92 93 94 95 96 97 98 99 -2");
                    that("unknown before 0", answers(3, x, (y, n) -> y.group(1, 1, n, 6)), "1 15 -2");
                });
        holds("- `table`: 0 or 1", () -> only(0, 1, INDEX, Expect::sample, (x, n) -> x.group(n, 0, 0, 0)));
        holds("- `column`: 0 to 3: by which the rows are grouped", () -> {
            only(0, 3, INDEX, Expect::sample, (x, n) -> x.group(0, n, 0, 0));
            that("rows in the first group", answers(4, groups(), (x, k) -> x.group(0, k, 0, 6)), "2 1 2 3");
        });
        holds("- `group`: its number", () -> {
            taken(0, Expect::sample, (x, n) -> x.group(0, 0, n, 0));
            taken(Integer.MAX_VALUE, Expect::sample, (x, n) -> x.group(0, 0, n, 0));
            groupsAre(0, 2, 0, "-1 20 40 50 60");
        });
        groupNumbers();
        holds("Throws `IndexOutOfBoundsException` if there is no such table or column", () -> {
            noTable((x, n) -> x.group(n, 0, 0, 0));
            noColumn((x, n) -> x.group(0, n, 0, 0));
        });
        holds("Throws `IllegalArgumentException` if group is negative, or what is not 0 to 7", () -> {
            for (int n : new int[] {-1, NONE, Integer.MIN_VALUE}) {
                outside(n, ARGUMENT, Expect::sample, (x, group) -> x.group(0, 0, group, 0));
                outside(n, ARGUMENT, TruthFilters::new, (x, group) -> x.group(0, 0, group, 0));
            }
            notUpTo(7, (x, n) -> x.group(0, 0, 0, n));
            notUpTo(7, (x, n) -> x.group(0, 0, 99, n));
        });
    }

    private void groupNumbers() {
        holds("- `what`: 0 the value, or UNKNOWN_CELL;", () -> groupsAre(0, 2, 0, "-1 20 40 50 60"));
        holds("1 its rows as a bit mask;", () -> {
            groupsAre(0, 2, 1, "5 2 8 16 32");
            that("sixteen rows", full().group(0, 2, 0, 1), 65535);
            that("the last row", full().group(0, 0, 15, 1), 32768);
        });
        holds("2 to 5 the sums of the values in the columns 0 to 3;", () -> {
            groupsAre(0, 0, 2, "0 0 14 99 -2");
            groupsAre(0, 0, 3, "7 3 1 6 -2");
            groupsAre(0, 0, 4, "70 0 40 60 -2");
            groupsAre(0, 0, 5, "0 9 9 9 -2");
            that("of sixteen rows of the table 1", answers(8, full(), (x, what) -> x.group(1, 1, 0, what)),
                    "50 65535 120 800 8 0 16 0");
        });
        holds("6 the number of its rows;", () -> groupsAre(0, 0, 6, "2 1 2 1 -2"));
        holds("7 the number of unknown cells in its rows, in all columns", () -> {
            groupsAre(0, 0, 7, "4 1 3 0 -2");
            TruthFilters x = new TruthFilters();
            for (int r = 0; r < 16; r++) {
                x.add(0, U, U, U, U);
            }
            that("all cells are unknown", x.group(0, 3, 0, 7), 64);
        });
        holds("Returns the number; NONE if there is no such group.", () -> {
            for (int what = 0; what < 8; what++) {
                that("without rows", new TruthFilters().group(0, 0, 0, what), NONE);
                that("behind the last group", groups().group(0, 0, 4, what), NONE);
                that("far behind it", groups().group(0, 0, Integer.MAX_VALUE, what), NONE);
            }
        });
    }
}
