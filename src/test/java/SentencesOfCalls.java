/** The sentences of the promises 10 to 15 and 25 to 28: the buffer, undo and snapshots, and both tables. */
final class SentencesOfCalls extends Sentences {
    SentencesOfCalls(Document document) {
        super(document);
    }

    @Override
    void all() {
        append();
        clearBuffer();
        firstError();
        undo();
        keep();
        goBack();
        join();
        among();
        count();
        share();
    }

    private void append() {
        section("Promise 10: append");
        holds("Appends a character to the buffer.", () -> {
            TruthFilters x = withText("b>1");
            x.append('7');
            x.define(3);
            that("the text", Expect.text(x, 3), "b>17");
            that("saved states", x.count(6), 6);
        });
        holds("- `code`: a character code, 33 to 126", () -> only(33, 126, ARGUMENT, Expect::sample,
                (x, n) -> x.append(n)));
        holds("Returns the new length of the buffer.", () -> {
            TruthFilters x = new TruthFilters();
            for (int length = 1; length <= 60; length++) {
                that("length", x.append(32 + length), length);
                that("length by count", x.count(7), length);
            }
            x.clearBuffer();
            that("length of a buffer that was cleared", x.append(126), 1);
        });
        holds("Throws `IllegalArgumentException` if code is out of range", () -> {
            for (int n : new int[] {32, 31, 0, -1, NONE, 127, 128, 97 + 256, 97 + 65536, Integer.MAX_VALUE,
                    Integer.MIN_VALUE}) {
                outside(n, ARGUMENT, Expect::sample, (x, code) -> x.append(code));
                outside(n, ARGUMENT, () -> withText("a".repeat(60)), (x, code) -> x.append(code));
            }
        });
        holds("Throws `IllegalStateException` if the buffer holds 60 characters", () -> {
            refused("append to an incomplete text", STATE, () -> withText("a?&".repeat(20)), x -> x.append('a'));
            refused("append to a whole text", STATE, () -> withText("!".repeat(58) + "a?"), x -> x.append('&'));
            that("the last character", withText("a".repeat(59)).append('a'), 60);
            TruthFilters x = withText("!".repeat(58) + "a?");
            x.define(0);
            that("after define there is room", x.append('a'), 1);
        });
    }

    private void clearBuffer() {
        section("Promise 11: clearBuffer");
        holds("Clears the buffer.", () -> {
            TruthFilters x = withText("a=1");
            x.clearBuffer();
            that("length", x.count(7), 0);
            that("first error", x.firstError(), 0);
            that("define", Expect.thrown(x, y -> y.define(0)), ARGUMENT);
            x.append('d');
            x.append('?');
            that("define of a new text", x.define(0), 1);
            nothingIsLeftOf("a?&!", "b?|c?");
            nothingIsLeftOf("!!(!(a?&", "b?");
            nothingIsLeftOf("a=1", "b=2&!a=1");
            nothingIsLeftOf("a=1", "c?");
            nothingIsLeftOf("(((", "a?|(b?&c?)");
            TruthFilters opened = withText("((");
            opened.firstError();
            opened.clearBuffer();
            Expect.type(opened, "a?)");
            that("a parenthesis that is open no more", opened.firstError(), 2);
            that("saved states", withText("").count(6), 6);
        });
        holds("Returns the length that it had.", () -> {
            for (int length = 0; length <= 60; length++) {
                TruthFilters x = withText("~".repeat(length));
                that("length", x.clearBuffer(), length);
                that("once more", x.clearBuffer(), 0);
            }
            that("in a new object", new TruthFilters().clearBuffer(), 0);
            that("after define", filtered("a?").clearBuffer(), 0);
        });
    }

    private static void nothingIsLeftOf(String text, String next) {
        TruthFilters x = withText(text);
        x.firstError();
        x.clearBuffer();
        Expect.type(x, next);
        that("first error of a next text", x.firstError(), next.length());
        that("its size", x.define(2), filtered(next).filter(0, 0));
        that("the next text", Expect.text(x, 2), Expect.text(filtered(next), 0));
    }

    private static void error(String text, int due) {
        TruthFilters x = withText(text);
        that("first error of " + text, x.firstError(), due);
        that("once more", x.firstError(), due);
        that("the buffer", x.count(7), text.length());
    }

    private void firstError() {
        section("Promise 12: firstError");
        holds("Finds the first error of the buffer.", () -> {
            error("a=1&&b??", 4);
            error("a=05|b==", 3);
            Expect.unchangedBy("firstError", () -> withText("a?&b"), TruthFilters::firstError);
            Expect.unchangedBy("firstError", () -> withText("a?b"), TruthFilters::firstError);
        });
        holds("Returns its index;", () -> {
            error("~", 0);
            error("a~", 1);
            error("a=~", 2);
            error("a=1~", 3);
            error("a=12~", 4);
            error("a?)", 2);
            error("!".repeat(59) + "~", 59);
            error("~".repeat(60), 0);
        });
        holds("the length of the buffer if there is no error (also if the text is not complete).", () -> {
            for (String text : new String[] {"", "a", "a=", "a=1", "a=12", "a=b", "a?", "!", "(", "(a?", "(a?)", "a?&",
                    "a?|", "a?&!", "a?&(", "!".repeat(60), "(".repeat(60), "a?&".repeat(20), "!".repeat(58) + "a?"}) {
                error(text, text.length());
            }
        });
    }

    private void undo() {
        section("Promise 13: undo");
        holds("Restores the state that was saved last, and removes it from the saved states.", () -> {
            TruthFilters x = new TruthFilters();
            String[] states = new String[6];
            for (int i = 0; i < 6; i++) {
                states[i] = Expect.state(x);
                x.add(i % 2, i, i, i, U);
            }
            for (int i = 5; i >= 0; i--) {
                that("saved states", x.count(6), i + 1);
                x.undo();
                that("the state", Expect.state(x), states[i]);
                that("saved states then", x.count(6), i);
            }
            x.add(0, 1, 2, 3, 4);
            x.undo();
            that("no row", x.count(0), 0);
            that("nothing is restored twice", Expect.thrown(x, TruthFilters::undo), STATE);
        });
        holds("Returns the number of saved states that are left.", () -> {
            for (int adds = 1; adds <= 9; adds++) {
                TruthFilters x = new TruthFilters();
                fill(x, 0, adds);
                that("left after " + adds, x.undo(), Math.min(adds, 6) - 1);
            }
            that("all", answers(6, full(), (x, n) -> x.undo()), "5 4 3 2 1 0");
        });
        holds("Throws `IllegalStateException` if no state is saved", () -> {
            refused("undo in a new object", STATE, TruthFilters::new, TruthFilters::undo);
            refused("undo when all is undone", STATE, SentencesOfCalls::undone, TruthFilters::undo);
            refused("undo with a text and a snapshot", STATE, SentencesOfCalls::keptOnly, TruthFilters::undo);
        });
    }

    private static TruthFilters undone() {
        TruthFilters x = full();
        for (int i = 0; i < 6; i++) {
            x.undo();
        }
        return x;
    }

    private static TruthFilters keptOnly() {
        TruthFilters x = new TruthFilters();
        x.append('a');
        x.keep(0);
        return x;
    }

    private void keep() {
        section("Promise 14: keep");
        holds("Takes a snapshot of the state, which replaces the one in the slot for snapshots.", () -> {
            TruthFilters x = Expect.sample();
            String first = Expect.state(x);
            x.keep(1);
            that("keep is not undoable", x.count(6), 6);
            x.drop(0, 0);
            String second = Expect.state(x);
            x.keep(0);
            x.drop(0, 0);
            that("the snapshot of the slot 0", x.goBack(0), 2);
            that("is the new one", Expect.state(x), second);
            that("the snapshot of the slot 1", x.goBack(1), 3);
            that("is another one", Expect.state(x), first);
            x.keep(0);
            x.keep(1);
            x.drop(1, 0);
            that("a snapshot stays as it was taken", x.goBack(0), 3);
            that("so does the other", x.goBack(1), 3);
        });
        holds("- `slot`: 0 or 1", () -> only(0, 1, ARGUMENT, Expect::sample, (x, n) -> x.keep(n)));
        holds("Returns the number of rows of both tables together.", () -> {
            that("without rows", new TruthFilters().keep(0), 0);
            that("of a sample", Expect.sample().keep(1), 3);
            that("of full tables", full().keep(0), 32);
            TruthFilters x = full();
            x.drop(1, 3);
            that("without one row", x.keep(1), 31);
        });
        holds("Throws `IllegalArgumentException` if there is no such slot", () -> notUpTo(1, (x, n) -> x.keep(n)));
    }

    private void goBack() {
        section("Promise 15: goBack");
        holds("Restores a snapshot, which stays in its slot.", () -> {
            TruthFilters x = Expect.sample();
            String state = Expect.state(x);
            x.keep(1);
            for (int i = 0; i < 3; i++) {
                x.drop(0, 1);
                x.add(1, i, i, i, i);
                x.combine(3, 0, 1, 1);
                x.check(0, NONE);
                that("goBack", x.goBack(1), 3);
                that("the state", Expect.state(x), state);
                that("the check", x.change(0, 0, 0, 9), NONE);
            }
        });
        holds("Undoable.", () -> {
            undoable("goBack", Expect::sample, x -> x.goBack(0), 3);
            undoable("goBack to the same state", Sentences::full, x -> x.goBack(1), 32);
        });
        holds("- `slot`: 0 or 1", () -> only(0, 1, ARGUMENT, SentencesOfCalls::twiceKept, (x, n) -> x.goBack(n)));
        holds("Returns the number of rows of both tables together after the call.", () -> {
            TruthFilters x = new TruthFilters();
            x.keep(0);
            fill(x, 0, 16);
            fill(x, 1, 16);
            x.keep(1);
            that("to the empty tables", x.goBack(0), 0);
            that("to the full tables", x.goBack(1), 32);
            that("to the empty tables again", x.goBack(0), 0);
        });
        holds("Throws `IllegalArgumentException` if there is no such slot", () -> notUpTo(1, (x, n) -> x.goBack(n)));
        holds("Throws `IllegalStateException` if the slot is empty", () -> {
            outside(1, STATE, Expect::sample, (x, n) -> x.goBack(n));
            outside(0, STATE, TruthFilters::new, (x, n) -> x.goBack(n));
            outside(1, STATE, SentencesOfCalls::keptOnly, (x, n) -> x.goBack(n));
            that("undo empties no slot", undoAfterKeep().goBack(0), 1);
        });
    }

    private static TruthFilters twiceKept() {
        TruthFilters x = Expect.sample();
        x.keep(1);
        return x;
    }

    private static TruthFilters undoAfterKeep() {
        TruthFilters x = new TruthFilters();
        x.add(0, 1, 1, 1, 1);
        x.keep(0);
        x.undo();
        return x;
    }

    private static TruthFilters joined() {
        TruthFilters x = new TruthFilters();
        x.add(0, 1, 7, 0, U);
        x.add(0, U, 7, 0, U);
        x.add(0, 2, 7, 0, U);
        x.add(0, 1, 8, 0, U);
        x.add(1, 2, 1, 9, U);
        x.add(1, 1, 1, 9, U);
        x.add(1, U, 1, U, U);
        x.add(1, 1, 1, 0, U);
        x.add(1, 5, 2, 0, U);
        return x;
    }

    private static void joinIs(int left, int right, int what, int due) {
        that("join of " + left + " and " + right + " by " + what, joined().join(left, right, what), due);
    }

    private void join() {
        section("Promise 25: join");
        holds("Returns a number of the join of both tables by a column of each: the pairs of a row of the table 0 and "
                + "a row of the table 1 whose cells in these columns have the same value, ordered by the first row, "
                + "then by the second row.", () -> {
                    that("a and a", answers(9, joined(), (x, n) -> x.join(0, 0, n)), "5 2 20 1 3 200 301 303 -2");
                    that("a and b", answers(12, joined(), (x, n) -> x.join(0, 1, n)),
                            "9 2 0 0 1 2 3 204 300 301 302 303");
                    that("c and c", answers(11, joined(), (x, n) -> x.join(2, 2, n)),
                            "8 0 7 3 4 103 104 203 204 303 304");
                    that("b and a", answers(4, joined(), (x, n) -> x.join(1, 0, n)), "0 15 31 -2");
                    that("unknown cells are no pair", answers(4, joined(), (x, n) -> x.join(3, 3, n)), "0 15 31 -2");
                });
        holds("- `left`: 0 to 3: the column of the table 0", () -> {
            only(0, 3, INDEX, Expect::sample, (x, n) -> x.join(n, 0, 0));
            that("pairs", answers(4, joined(), (x, left) -> x.join(left, 0, 0)), "5 0 0 0");
        });
        holds("- `right`: 0 to 3: the column of the table 1", () -> {
            only(0, 3, INDEX, Expect::sample, (x, n) -> x.join(0, n, 0));
            that("pairs", answers(4, joined(), (x, right) -> x.join(0, right, 0)), "5 9 0 0");
        });
        joinNumbers();
        holds("Throws `IndexOutOfBoundsException` if there is no such column", () -> {
            noColumn((x, n) -> x.join(n, 0, 0));
            noColumn((x, n) -> x.join(0, n, 3));
        });
        holds("Throws `IllegalArgumentException` if what is negative", () -> {
            for (int n : new int[] {-1, NONE, -3, Integer.MIN_VALUE, Integer.MIN_VALUE + 2}) {
                outside(n, ARGUMENT, Expect::sample, (x, what) -> x.join(0, 0, what));
                outside(n, ARGUMENT, TruthFilters::new, (x, what) -> x.join(0, 0, what));
            }
        });
    }

    /** Both columns c have one value alone, and no row of the column a of the table 0 has it. */
    private static TruthFilters allPairs() {
        TruthFilters x = new TruthFilters();
        for (int r = 0; r < 16; r++) {
            x.add(0, 90 - r, U, 3, 0);
            x.add(1, 90 - r, U, 3, 0);
        }
        return x;
    }

    private void joinNumbers() {
        holds("- `what`: 0 the number of pairs,", () -> {
            joinIs(0, 0, 0, 5);
            that("no rows", new TruthFilters().join(0, 0, 0), 0);
            that("all pairs", allPairs().join(2, 2, 0), 256);
            that("one partner each", allPairs().join(0, 0, 0), 16);
            that("no pairs", allPairs().join(0, 2, 0), 0);
        });
        holds("1 the rows of the table 0 without a partner as a bit mask,", () -> {
            joinIs(0, 0, 1, 2);
            that("no rows", new TruthFilters().join(0, 0, 1), 0);
            that("all", allPairs().join(0, 2, 1), 65535);
            that("none", allPairs().join(0, 0, 1), 0);
            that("with an unknown cell", allPairs().join(1, 1, 1), 65535);
            that("when the other table is empty", withRow("a?", 1, 1, 1, 1).join(0, 0, 1), 1);
        });
        holds("2 the rows of the table 1 without a partner as a bit mask,", () -> {
            joinIs(0, 0, 2, 20);
            that("no rows", withRow("a?", 1, 1, 1, 1).join(0, 0, 2), 0);
            that("all", allPairs().join(2, 3, 2), 65535);
            that("none", allPairs().join(2, 2, 2), 0);
            that("with an unknown cell", allPairs().join(1, 1, 2), 65535);
            TruthFilters x = new TruthFilters();
            x.add(1, 0, 0, 0, 0);
            that("when the other table is empty", x.join(0, 0, 2), 1);
        });
        holds("3 and more: the pair with the index what - 3, as 100 times its first row, plus its second row", () -> {
            TruthFilters all = allPairs();
            for (int index = 0; index < 256; index++) {
                that("the pair " + index, all.join(2, 2, index + 3), 100 * (index / 16) + index % 16);
            }
            that("the last of one partner each", allPairs().join(0, 0, 18), 1515);
        });
        holds("Returns the number; NONE if there is no such pair.", () -> {
            that("behind the last pair", allPairs().join(2, 2, 259), NONE);
            that("behind the last of one partner each", allPairs().join(0, 0, 19), NONE);
            that("without pairs", allPairs().join(0, 2, 3), NONE);
            that("with more rows in the table 1", joined().join(2, 2, 11), NONE);
            TruthFilters x = joined();
            x.drop(1, 4);
            x.drop(1, 1);
            that("with more rows in the table 0", answers(12, x, (y, n) -> y.join(2, 2, n)),
                    "4 0 3 2 102 202 302 -2 -2 -2 -2 -2");
            that("without rows", new TruthFilters().join(0, 0, 3), NONE);
            that("far behind", allPairs().join(2, 2, Integer.MAX_VALUE), NONE);
            joinIs(0, 0, 8, NONE);
        });
    }

    private void among() {
        section("Promise 26: among");
        holds("Returns the truth value of the statement that the cell of a row of the table 0 is among the cells of a "
                + "column of the table 1: the disjunction of the comparisons by \"=\" with all these cells (FALSE if "
                + "there are none).", () -> {
                    that("rows among a", answers(4, joined(), (x, row) -> x.among(row, 0, 0)), "2 1 2 2");
                    that("rows among b", answers(4, joined(), (x, row) -> x.among(row, 0, 1)), "2 1 2 2");
                    that("column b among a, with an unknown one", answers(4, joined(), (x, row) -> x.among(row, 1, 0)),
                            "1 1 1 1");
                    that("column b among b, all known", answers(4, joined(), (x, row) -> x.among(row, 1, 1)),
                            "0 0 0 0");
                    that("all unknown", answers(4, joined(), (x, row) -> x.among(row, 3, 3)), "1 1 1 1");
                    TruthFilters x = withRow("a?", 1, U, 3, 4);
                    that("there are none", x.among(0, 0, 0), 0);
                    that("there are none for an unknown cell", x.among(0, 1, 0), 0);
                    x.add(1, U, 1, 1, 1);
                    that("one that is unknown", x.among(0, 0, 0), 1);
                    x.add(1, 1, 1, 1, 1);
                    that("one more that is equal", x.among(0, 0, 0), 2);
                    x.add(1, 2, 1, 1, 1);
                    x.add(1, U, 1, 1, 1);
                    that("and more behind it", x.among(0, 0, 0), 2);
                });
        holds("- `row`: a row of the table 0", () -> {
            only(0, 15, INDEX, Sentences::full, (x, n) -> x.among(n, 0, 0));
            only(0, 1, INDEX, Expect::sample, (x, n) -> x.among(n, 0, 0));
            that("the last row of sixteen", full().among(15, 0, 0), 2);
        });
        holds("- `left`: 0 to 3: the column of the table 0", () -> {
            only(0, 3, INDEX, Expect::sample, (x, n) -> x.among(0, n, 0));
            that("the columns", answers(4, full(), (x, left) -> x.among(0, left, 0)), "2 0 2 1");
        });
        holds("- `right`: 0 to 3: the column of the table 1", () -> {
            only(0, 3, INDEX, Expect::sample, (x, n) -> x.among(0, 0, n));
            that("the columns", answers(4, full(), (x, right) -> x.among(7, 0, right)), "2 0 0 0");
        });
        holds("Returns 0 to 2.", () -> {
            that("FALSE", full().among(5, 1, 0), 0);
            that("UNKNOWN", full().among(5, 3, 0), 1);
            that("TRUE", full().among(5, 0, 0), 2);
        });
        holds("Throws `IndexOutOfBoundsException` if there is no such row or column", () -> {
            noRow(0, (x, n) -> x.among(n, 0, 0));
            noColumn((x, n) -> x.among(0, n, 0));
            noColumn((x, n) -> x.among(0, 0, n));
        });
    }

    private void count() {
        section("Promise 27: count");
        holds("Returns a number.", () -> {
            that("all numbers", answers(8, Expect.sample(), (x, what) -> x.count(what)), "2 1 2 1 0 1 6 3");
            that("of full tables", answers(8, full(), (x, what) -> x.count(what)), "16 16 2 0 0 0 6 0");
        });
        holds("- `what`: 0 and 1 the number of rows of the tables 0 and 1,", () -> {
            TruthFilters x = new TruthFilters();
            for (int rows = 0; rows <= 16; rows++) {
                that("rows of the table 0", x.count(0), rows);
                that("rows of the table 1", x.count(1), 0);
                Expect.thrown(x, y -> y.add(0, 1, 1, 1, 1));
            }
            x.add(1, 1, 1, 1, 1);
            that("both", x.count(0) + " " + x.count(1), "16 1");
        });
        holds("2 the number of slots with a filter,", () -> {
            for (int slot = 0; slot < 6; slot++) {
                that("one filter", Expect.put(new TruthFilters(), slot, "a?").count(2), 1);
                that("one of three", Expect.put(Expect.sample(), slot, "a?").count(2), slot < 2 ? 2 : 3);
            }
            that("none", new TruthFilters().count(2), 0);
        });
        holds("3 and 4 the number of rows of the tables 0 and 1 for which the check is UNKNOWN (0 without a check),",
                () -> {
            TruthFilters x = checked("a<9|b=1");
            for (int table = 0; table < 2; table++) {
                x.add(table, U, U, 0, 0);
                x.add(table, 1, U, 0, 0);
                x.add(table, U, 1, 0, 0);
                x.add(table, U, 2, 0, 0);
            }
            x.add(1, 10, U, 0, 0);
            that("with checks", x.count(3) + " " + x.count(4), "2 3");
            x.check(0, NONE);
            that("without one check", x.count(3) + " " + x.count(4), "0 3");
            x.check(1, NONE);
            that("without checks", x.count(3) + " " + x.count(4), "0 0");
            TruthFilters most = checked("d=1");
            for (int r = 0; r < 16; r++) {
                most.add(1, 0, 0, 0, U);
            }
            that("all rows", most.count(4), 16);
        });
        countOfRefusals();
        holds("6 the number of saved states,", () -> {
            TruthFilters x = new TruthFilters();
            for (int adds = 0; adds < 10; adds++) {
                that("saved states", x.count(6), Math.min(adds, 6));
                x.add(0, 1, 1, 1, 1);
            }
            x.undo();
            that("after undo", x.count(6), 5);
        });
        holds("7 the length of the buffer", () -> {
            that("the empty buffer", new TruthFilters().count(7), 0);
            that("the full buffer", withText("~".repeat(60)).count(7), 60);
            that("after define", filtered("a?").count(7), 0);
        });
        holds("Returns the number.", () -> {
            for (int what = 0; what < 8; what++) {
                that("in a new object", new TruthFilters().count(what), 0);
            }
        });
        holds("Throws `IllegalArgumentException` if what is not 0 to 7", () -> {
            notUpTo(7, (x, n) -> x.count(n));
            only(0, 7, ARGUMENT, Sentences::full, (x, n) -> x.count(n));
        });
    }

    private void countOfRefusals() {
        holds("5 the number of refusals so far (of add(), change(), check() and update()),", () -> {
            TruthFilters x = withRow("a<9", 1, 2, 3, 4);
            x.check(0, 0);
            Expect.put(x, 1, "a=2");
            that("none yet", x.count(5), 0);
            x.add(0, 9, 0, 0, 0);
            that("of add", x.count(5), 1);
            x.change(0, 0, 0, 9);
            that("of change", x.count(5), 2);
            x.check(0, 1);
            that("of check", x.count(5), 3);
            x.update(0, 0, 0, 9);
            that("of update", x.count(5), 4);
            x.remove(0, 1);
            x.update(0, 1, 0, 9);
            x.check(0, NONE);
            Expect.thrown(x, y -> y.add(0, 100, 0, 0, 0));
            Expect.thrown(x, y -> y.check(0, 5));
            that("what is taken or throws is no refusal", x.count(5), 4);
            x.keep(0);
            x.undo();
            x.add(0, 9, 0, 0, 0);
            that("one more", x.count(5), 5);
            x.undo();
            that("undo brings it back", x.count(5), 4);
            x.add(0, 9, 0, 0, 0);
            x.goBack(0);
            that("so does goBack", x.count(5), 4);
        });
    }

    private void share() {
        section("Promise 28: share");
        holds("Returns the share of rows of a table for which a filter is TRUE.", () -> {
            TruthFilters x = Expect.sample();
            that("one TRUE, one UNKNOWN", x.share(0, 0), 0.5);
            that("one TRUE, one FALSE", x.share(0, 1), 0.5);
            that("all of the table 1", x.share(1, 0), 1.0);
            that("none of the table 1", x.share(1, 1), 0.0);
        });
        holds("- `table`: 0 or 1", () -> only(0, 1, INDEX, Expect::sample, (x, n) -> (long) x.share(n, 0)));
        holds("- `slot`: 0 to 5", () -> {
            only(0, 5, INDEX, Expect::sample, (x, n) -> (long) x.share(0, n));
            that("the last slot", Expect.put(full(), 5, "a=3").share(1, 5), 0.0625);
        });
        holds("Returns the number of these rows as a double, divided by the number of rows as a double;", () -> {
            for (int rows = 1; rows <= 16; rows++) {
                TruthFilters x = new TruthFilters();
                fill(x, 0, rows);
                for (int matching = 0; matching <= rows; matching++) {
                    Expect.put(x, 0, "a<" + matching);
                    that(matching + " of " + rows, x.share(0, 0), (double) matching / (double) rows);
                }
            }
            that("one of three", thirds().share(0, 0), 0.3333333333333333);
        });
        holds("0.0 without rows or if the slot is empty", () -> {
            that("without rows", filtered("a?").share(0, 0), 0.0);
            that("without rows and filter", new TruthFilters().share(1, 5), 0.0);
            that("if the slot is empty", full().share(0, 5), 0.0);
        });
        holds("Throws `IndexOutOfBoundsException` if there is no such table or slot", () -> {
            noTable((x, n) -> (long) x.share(n, 0));
            noSlot((x, n) -> (long) x.share(0, n));
        });
    }

    private static TruthFilters thirds() {
        TruthFilters x = filtered("a=1");
        fill(x, 0, 3);
        return x;
    }
}
