/** Promises 25 to 28: the join, membership, counts and shares. */
public final class BothTablesTest {
    private static final int U = Expect.U;
    private static final int NONE = Expect.NONE;
    private static final int[] NO_COLUMNS = {-1, 4, Integer.MAX_VALUE, Integer.MIN_VALUE};

    public static void main(String[] args) {
        joins();
        joinsOfFullTables();
        joinsWrong();
        memberships();
        membershipsWrong();
        counts();
        countsWrong();
        shares();
        sharesWrong();
        Expect.end();
    }

    private static TruthFilters bothTables() {
        TruthFilters x = new TruthFilters();
        x.add(0, 1, 7, 0, U);
        x.add(0, U, 7, 0, U);
        x.add(0, 2, 7, 0, U);
        x.add(0, 1, 8, 0, U);
        x.add(1, 2, 1, 9, U);
        x.add(1, 1, 1, 9, U);
        x.add(1, U, 1, U, U);
        x.add(1, 1, 1, 0, U);
        x.add(1, 5, 2, 0, U);
        return x;
    }

    private static String pairs(TruthFilters x, int left, int right) {
        StringBuilder text = new StringBuilder();
        int number = x.join(left, right, 0);
        for (int i = 0; i < number; i++) {
            text.append(x.join(left, right, 3 + i)).append(' ');
        }
        Expect.that("no pair behind the last", x.join(left, right, 3 + number), NONE);
        return text.append('/').append(x.join(left, right, 1)).append('/').append(x.join(left, right, 2)).toString();
    }

    private static void joins() {
        TruthFilters x = bothTables();
        Expect.that("join of a and a", pairs(x, 0, 0), "1 3 200 301 303 /2/20");
        Expect.that("join of a and b", pairs(x, 0, 1), "0 1 2 3 204 300 301 302 303 /2/0");
        Expect.that("join of b and a", pairs(x, 1, 0), "/15/31");
        Expect.that("join of c and c", pairs(x, 2, 2), "3 4 103 104 203 204 303 304 /0/7");
        Expect.that("unknown cells are no partners", pairs(x, 3, 3), "/15/31");
        Expect.that("far pair", x.join(0, 0, Integer.MAX_VALUE), NONE);
        Expect.that("a query saves nothing", x.count(6), 6);
        TruthFilters none = new TruthFilters();
        Expect.that("join of nothing", pairs(none, 0, 0), "/0/0");
        none.add(0, 1, 1, 1, 1);
        Expect.that("join with nothing", pairs(none, 0, 0), "/1/0");
        none.drop(0, 0);
        none.add(1, 1, 1, 1, 1);
        Expect.that("join of nothing with a row", pairs(none, 0, 0), "/0/1");
    }

    private static void joinsOfFullTables() {
        TruthFilters x = new TruthFilters();
        for (int i = 0; i < 16; i++) {
            x.add(0, 3, i, 0, 0);
            x.add(1, 3, 15 - i, 0, 0);
        }
        Expect.that("all pairs", x.join(0, 0, 0), 256);
        Expect.that("the first pair", x.join(0, 0, 3), 0);
        Expect.that("the last pair", x.join(0, 0, 258), 1515);
        Expect.that("behind the last pair", x.join(0, 0, 259), NONE);
        Expect.that("a pair between", x.join(0, 0, 3 + 35), 203);
        Expect.that("one partner each", x.join(1, 1, 3 + 4), 411);
        Expect.that("no lonely rows", x.join(1, 1, 1) + x.join(1, 1, 2), 0);
        Expect.that("all rows are lonely", x.join(0, 3, 1), 65535);
        Expect.that("all rows are lonely there", x.join(2, 0, 2), 65535);
    }

    private static void joinsWrong() {
        for (int column : NO_COLUMNS) {
            Expect.refused("join by left " + column, Expect.INDEX, x -> x.join(column, 0, -1));
            Expect.refused("join by right " + column, Expect.INDEX, x -> x.join(0, column, -1));
            Expect.refused("among by left " + column, Expect.INDEX, x -> x.among(0, column, 0));
            Expect.refused("among by right " + column, Expect.INDEX, x -> x.among(0, 0, column));
        }
        for (int what : new int[] {-1, NONE, Integer.MIN_VALUE}) {
            Expect.refused("join by " + what, Expect.ARGUMENT, x -> x.join(0, 0, what));
        }
    }

    private static void memberships() {
        TruthFilters x = bothTables();
        Expect.that("is among them, also with unknown ones", x.among(0, 0, 0), 2);
        Expect.that("an unknown one is perhaps among them", x.among(1, 0, 0), 1);
        Expect.that("is among them first", x.among(2, 0, 0), 2);
        Expect.that("unknown because of one unknown cell", x.among(0, 1, 0), 1);
        Expect.that("is not among known ones", x.among(0, 1, 1), 0);
        Expect.that("is among known ones last", x.among(2, 0, 1), 2);
        Expect.that("an unknown one and known ones", x.among(1, 0, 1), 1);
        Expect.that("all unknown", x.among(0, 3, 3), 1);
        for (int i = 0; i < 5; i++) {
            x.drop(1, 0);
        }
        Expect.that("among none", x.among(0, 0, 0), 0);
        Expect.that("an unknown one among none", x.among(1, 0, 0), 0);
        Expect.that("a query saves nothing", x.count(6), 6);
    }

    private static void membershipsWrong() {
        for (int row : new int[] {-1, 2, 16, Integer.MAX_VALUE, Integer.MIN_VALUE}) {
            Expect.refused("among of row " + row, Expect.INDEX, x -> x.among(row, 0, 0));
        }
        TruthFilters x = new TruthFilters();
        x.add(1, 1, 1, 1, 1);
        Expect.that("rows of table 1 do not count", Expect.outcome(() -> x.among(0, 0, 0)),
                "java.lang.IndexOutOfBoundsException");
    }

    private static void countText(TruthFilters x, String due) {
        StringBuilder text = new StringBuilder();
        for (int what = 0; what < 8; what++) {
            text.append(what == 0 ? "" : " ").append(x.count(what));
        }
        Expect.that("counts", text.toString(), due);
    }

    private static void counts() {
        TruthFilters x = new TruthFilters();
        countText(x, "0 0 0 0 0 0 0 0");
        x.add(0, 1, 2, 3, 4);
        x.add(0, U, 2, 3, 4);
        x.add(1, U, U, 3, 4);
        countText(x, "2 1 0 0 0 0 3 0");
        Expect.put(x, 5, "a<9&b?");
        Expect.put(x, 2, "a<9|b=1");
        x.append('x');
        countText(x, "2 1 2 0 0 0 5 1");
        x.check(0, 2);
        countText(x, "2 1 2 1 0 0 6 1");
        x.check(1, 2);
        countText(x, "2 1 2 1 1 0 6 1");
        x.add(1, 9, U, 3, 4);
        countText(x, "2 2 2 1 2 0 6 1");
        x.add(1, 9, 0, 3, 4);
        countText(x, "2 2 2 1 2 1 6 1");
        x.change(1, 1, 1, 0);
        countText(x, "2 2 2 1 2 2 6 1");
        x.check(0, 5);
        countText(x, "2 2 2 1 2 3 6 1");
        x.update(0, 2, 0, 10);
        countText(x, "2 2 2 1 2 4 6 1");
        x.undo();
        countText(x, "2 2 2 1 2 3 5 1");
        x.check(1, NONE);
        countText(x, "2 2 2 1 0 3 6 1");
        x.remove(0, 2);
        countText(x, "1 2 2 1 0 3 6 1");
        for (int slot = 0; slot < 6; slot++) {
            TruthFilters one = Expect.put(new TruthFilters(), slot, "a?");
            Expect.that("one filter, in slot " + slot, one.count(2), 1);
        }
    }

    private static void countsWrong() {
        for (int what : new int[] {-1, 8, Integer.MAX_VALUE, Integer.MIN_VALUE}) {
            Expect.refused("count of " + what, Expect.ARGUMENT, x -> x.count(what));
        }
    }

    private static void shares() {
        TruthFilters x = Expect.put(new TruthFilters(), 0, "a=1");
        Expect.that("share without rows", x.share(0, 0), 0.0);
        Expect.that("share of nothing without rows", x.share(1, 1), 0.0);
        x.add(0, 1, 0, 0, 0);
        Expect.that("share of all", x.share(0, 0), 1.0);
        x.add(0, U, 0, 0, 0);
        x.add(0, 2, 0, 0, 0);
        Expect.that("share of one of three", x.share(0, 0), 1.0 / 3.0);
        Expect.that("share of an empty slot", x.share(0, 1), 0.0);
        x.add(0, 1, 0, 0, 0);
        x.add(0, 1, 0, 0, 0);
        x.add(0, 1, 0, 0, 0);
        x.add(0, 1, 0, 0, 0);
        Expect.that("share of five of seven", x.share(0, 0), 5.0 / 7.0);
        x.add(1, 2, 0, 0, 0);
        Expect.that("share of none", x.share(1, 0), 0.0);
        Expect.that("a query saves nothing", x.count(6), 6);
    }

    private static void sharesWrong() {
        for (int table : new int[] {-1, 2, Integer.MAX_VALUE, Integer.MIN_VALUE}) {
            Expect.refused("share of table " + table, Expect.INDEX, x -> x.share(table, 0));
        }
        for (int slot : new int[] {-1, 6, NONE, Integer.MAX_VALUE, Integer.MIN_VALUE}) {
            Expect.refused("share of slot " + slot, Expect.INDEX, x -> x.share(0, slot));
        }
        TruthFilters none = new TruthFilters();
        Expect.that("share of no slot without rows", Expect.outcome(() -> (long) none.share(0, 6)),
                "java.lang.IndexOutOfBoundsException");
    }
}
