/** The sentences of the promises 19 to 24, about what filters tell. */
final class SentencesOfQueries extends Sentences {
    SentencesOfQueries(Document document) {
        super(document);
    }

    @Override
    void all() {
        truth();
        rows();
        filter();
        letter();
        compare();
        certain();
    }

    private void truth() {
        section("Promise 19: truth");
        holds("Returns the truth value of a filter for a row.", () -> {
            TruthFilters x = Expect.sample();
            that("a<9 for 3", x.truth(0, 0, 0), 2);
            that("a<9 for an unknown cell", x.truth(0, 1, 0), 1);
            that("b? for an unknown cell", x.truth(0, 0, 1), 2);
            that("b? for 2", x.truth(0, 1, 1), 0);
            that("a<9 in the table 1", x.truth(1, 0, 0), 2);
            that("b? in the table 1", x.truth(1, 0, 1), 0);
        });
        holds("- `table`: 0 or 1", () -> only(0, 1, INDEX, Expect::sample, (x, n) -> x.truth(n, 0, 0)));
        holds("- `row`: its number", () -> {
            only(0, 15, INDEX, Sentences::full, (x, n) -> x.truth(1, n, 0));
            only(0, 1, INDEX, Expect::sample, (x, n) -> x.truth(0, n, 0));
            that("the rows", answers(16, full(), (x, r) -> x.truth(1, r, 0)), "2 2 2 2 2 2 2 2 2 0 0 0 0 0 0 0");
        });
        holds("- `slot`: 0 to 5", () -> {
            only(0, 5, INDEX, Expect::sample, (x, n) -> x.truth(0, 0, n));
            that("the slots", answers(6, sixFilters(), (x, slot) -> x.truth(0, 0, slot)), "0 0 0 2 0 0");
        });
        holds("Returns 0 to 2; NONE if the slot is empty.", () -> {
            TruthFilters x = withRow("c=1", 1, 1, U, 1);
            Expect.put(x, 1, "a=1");
            Expect.put(x, 2, "a=2");
            that("the truth values", answers(6, x, (y, slot) -> y.truth(0, 0, slot)), "1 2 0 -2 -2 -2");
        });
        holds("Throws `IndexOutOfBoundsException` if there is no such table, row or slot", () -> {
            noTable((x, n) -> x.truth(n, 0, 0));
            noRow(0, (x, n) -> x.truth(0, n, 0));
            noRow(1, (x, n) -> x.truth(1, n, 5));
            noSlot((x, n) -> x.truth(0, 0, n));
        });
    }

    private static void rowsAre(TruthFilters x, int table, int slot, String due) {
        for (int by = 0; by < 2; by++) {
            int way = by;
            that("rows by way " + way, answers(3, x, (y, truth) -> y.rows(table, slot, truth, way)), due);
        }
    }

    private void rows() {
        section("Promise 20: rows");
        holds("Returns the rows for which a filter has a truth value.", () -> {
            rowsAre(Expect.sample(), 0, 0, "0 2 1");
            rowsAre(Expect.sample(), 0, 1, "2 0 1");
            rowsAre(Expect.sample(), 1, 0, "0 0 1");
            rowsAre(full(), 0, 0, "65024 0 511");
        });
        holds("- `table`: 0 or 1", () -> {
            only(0, 1, INDEX, Expect::sample, (x, n) -> x.rows(n, 0, 2, 0));
            only(0, 1, INDEX, Expect::sample, (x, n) -> x.rows(n, 0, 2, 1));
        });
        holds("- `slot`: 0 to 5", () -> {
            only(0, 5, INDEX, Expect::sample, (x, n) -> x.rows(0, n, 0, 0));
            only(0, 5, INDEX, Expect::sample, (x, n) -> x.rows(0, n, 0, 1));
            that("the slots", answers(6, sixFilters(), (x, slot) -> x.rows(0, slot, 2, 1)), "0 0 0 1 0 0");
        });
        holds("- `truth`: 0 to 2", () -> {
            only(0, 2, ARGUMENT, Expect::sample, (x, n) -> x.rows(0, 0, n, 0));
            only(0, 2, ARGUMENT, Expect::sample, (x, n) -> x.rows(0, 0, n, 1));
            rowsAre(full(), 0, 1, "0 0 65535");
            rowsAre(Expect.put(full(), 2, "d<5"), 0, 2, "0 65535 0");
            rowsAre(Expect.put(full(), 2, "!d?"), 0, 2, "65535 0 0");
        });
        holds("- `way`: 0 computed row by row, 1 computed part by part for all rows at once, by two bit sets (the "
                + "result is the same)", () -> {
                    only(0, 1, ARGUMENT, Expect::sample, (x, n) -> x.rows(0, 0, 0, n));
                    for (String text : new String[] {"a=b", "a<b|c?", "!(a>b&!c=0)|d?&a=a", "!!(b=1|!(a?|b?))",
                            "a?&b?&c?&d?", "a<5&(b>5|c=d)&!(a=b|b=c)", "!".repeat(58) + "a?", "a=1|b=1|c=1|d=1"}) {
                        bothWays(text);
                    }
                });
        holds("Returns the rows as a bit mask; NONE if the slot is empty.", () -> {
            rowsAre(Expect.sample(), 0, 5, "-2 -2 -2");
            rowsAre(new TruthFilters(), 1, 0, "-2 -2 -2");
            rowsAre(filtered("a?"), 0, 0, "0 0 0");
            rowsAre(filtered("a=1"), 1, 0, "0 0 0");
            TruthFilters x = full();
            x.drop(0, 0);
            rowsAre(x, 0, 1, "0 0 32767");
        });
        holds("Throws `IndexOutOfBoundsException` if there is no such table or slot", () -> {
            noTable((x, n) -> x.rows(n, 0, 0, 0));
            noSlot((x, n) -> x.rows(0, n, 0, 1));
        });
        holds("Throws `IllegalArgumentException` if truth is not 0 to 2, or way is not 0 or 1", () -> {
            notUpTo(2, (x, n) -> x.rows(0, 0, n, 0));
            notUpTo(2, (x, n) -> x.rows(0, 5, n, 1));
            notUpTo(1, (x, n) -> x.rows(0, 0, 0, n));
            notUpTo(1, (x, n) -> x.rows(0, 5, 2, n));
        });
    }

    /** Sixteen rows with unknown cells in all kinds of places. */
    private static void bothWays(String text) {
        TruthFilters x = filtered(text);
        for (int r = 0; r < 16; r++) {
            x.add(1, (r & 1) == 0 ? U : r % 3, (r & 2) == 0 ? U : r % 2, (r & 4) == 0 ? U : 1, (r & 8) == 0 ? U : 0);
        }
        int all = 0;
        for (int truth = 0; truth < 3; truth++) {
            int byRow = 0;
            for (int r = 0; r < 16; r++) {
                byRow |= x.truth(1, r, 0) == truth ? 1 << r : 0;
            }
            that(text + " row by row", x.rows(1, 0, truth, 0), byRow);
            that(text + " by two bit sets", x.rows(1, 0, truth, 1), byRow);
            all |= byRow;
        }
        that("each row has a truth value", all, 65535);
    }

    private static void numberIs(int what, String text, int due) {
        that("the number of " + text, filtered(text).filter(0, what), due);
    }

    private void filter() {
        section("Promise 21: filter");
        holds("Returns a number of a filter.", () -> {
            that("all numbers", answers(5, filtered("!(a<b&c?)|c=99"), (x, what) -> x.filter(0, what)), "6 4 3 7 14");
            that("of another slot", answers(5, Expect.sample(), (x, what) -> x.filter(1, what)), "1 1 1 2 2");
        });
        holds("- `slot`: 0 to 5", () -> {
            only(0, 5, INDEX, Expect::sample, (x, n) -> x.filter(n, 0));
            that("lengths", answers(6, sixFilters(), (x, slot) -> x.filter(slot, 4)), "3 3 3 3 3 3");
        });
        holds("- `what`: 0 its size,", () -> {
            numberIs(0, "a?", 1);
            numberIs(0, "!".repeat(58) + "a?", 59);
            numberIs(0, "a?&!b?|c=1", 6);
        });
        holds("1 its depth,", () -> {
            numberIs(1, "a?", 1);
            numberIs(1, "!".repeat(58) + "a?", 59);
            numberIs(1, "a?&!b?|c=1", 4);
            that("of the deepest that is combined", deep().filter(0, 1), 40);
        });
        holds("2 the number of its tests,", () -> {
            numberIs(2, "!!!a?", 1);
            numberIs(2, "a?&".repeat(19) + "a?", 20);
            numberIs(2, "a=b|c<d&(a?|!d>0)", 4);
        });
        holds("3 the columns in its tests as a bit mask,", () -> {
            numberIs(3, "a=3", 1);
            numberIs(3, "b<1", 2);
            numberIs(3, "c>99", 4);
            numberIs(3, "d?", 8);
            numberIs(3, "a=d", 9);
            numberIs(3, "c<b", 6);
            numberIs(3, "c>c", 4);
            numberIs(3, "a?|!b<c&d=0", 15);
        });
        holds("4 the length of its short text", () -> {
            numberIs(4, "((a?))", 2);
            numberIs(4, "b=10", 4);
            numberIs(4, "!((a?|b?))", 8);
            that("of the longest that is combined", longest().filter(2, 4), 138);
        });
        holds("Returns the number; NONE if the slot is empty.", () -> {
            for (int slot = 0; slot < 6; slot++) {
                int empty = slot;
                that("of an empty slot", answers(5, new TruthFilters(), (x, what) -> x.filter(empty, what)),
                        "-2 -2 -2 -2 -2");
            }
        });
        holds("Throws `IndexOutOfBoundsException` if there is no such slot", () -> noSlot((x, n) -> x.filter(n, 0)));
        holds("Throws `IllegalArgumentException` if what is not 0 to 4", () -> {
            notUpTo(4, (x, n) -> x.filter(0, n));
            notUpTo(4, (x, n) -> x.filter(5, n));
        });
    }

    private static TruthFilters deep() {
        TruthFilters x = filtered("a?");
        for (int i = 0; i < 39; i++) {
            x.combine(0, 0, 0, 0);
        }
        return x;
    }

    /** In the slot 2, 20 tests of four characters, each but the last before a disjunction in parentheses. */
    private static TruthFilters longest() {
        TruthFilters x = filtered("a>10");
        Expect.put(x, 2, "d=98");
        for (int i = 0; i < 19; i++) {
            x.combine(2, 0, 2, 2);
        }
        x.combine(2, 2, 2, 0);
        return x;
    }

    private void letter() {
        section("Promise 22: letter");
        holds("Returns a character of the short text of a filter.", () -> {
            that("the text", Expect.text(filtered("(!((a=10)|(b?)))"), 0), "!(a=10|b?)");
            that("all characters", Expect.text(filtered("c<0&!d>99|a=b"), 0), "c<0&!d>99|a=b");
            that("the longest text", Expect.text(longest(), 2),
                    "!(a>10|" + "(a>10|".repeat(18) + "d=98" + ")".repeat(19));
        });
        holds("- `slot`: 0 to 5", () -> {
            only(0, 5, INDEX, Expect::sample, (x, n) -> x.letter(n, 0));
            that("the slots", answers(6, sixFilters(), (x, slot) -> x.letter(slot, 2)), "48 49 50 51 52 53");
        });
        holds("- `index`: the index", () -> {
            for (int n : new int[] {0, 1, 2, 59, 60, 137, 138, 1000, Integer.MAX_VALUE}) {
                taken(n, Expect::sample, (x, index) -> x.letter(0, index));
            }
        });
        holds("Returns its code; NONE if the slot is empty or the text is not so long.", () -> {
            that("the first ones", answers(4, filtered("a<9"), (x, n) -> x.letter(0, n)), "97 60 57 -2");
            that("the last one of the longest text", longest().letter(2, 137), ')');
            that("behind it", longest().letter(2, 138), NONE);
            that("far behind", filtered("a?").letter(0, Integer.MAX_VALUE), NONE);
            that("of an empty slot", answers(3, filtered("a?"), (x, n) -> x.letter(5, n)), "-2 -2 -2");
            TruthFilters x = Expect.put(longest(), 3, "b?");
            x.letter(2, 50);
            that("behind a text that comes after a longer one", x.letter(3, 2), NONE);
        });
        holds("Throws `IndexOutOfBoundsException` if there is no such slot", () -> noSlot((x, n) -> x.letter(n, 0)));
        holds("Throws `IllegalArgumentException` if index is negative", () -> {
            for (int n : new int[] {-1, NONE, Integer.MIN_VALUE}) {
                outside(n, ARGUMENT, Expect::sample, (x, index) -> x.letter(0, index));
                outside(n, ARGUMENT, TruthFilters::new, (x, index) -> x.letter(0, index));
            }
        });
    }

    /** Rows for each pair of truth values of a=1 and b=1, and another one for TRUE and UNKNOWN. */
    private static TruthFilters pairsOfTruths() {
        TruthFilters x = filtered("a=1");
        Expect.put(x, 1, "b=1");
        int[] cells = {2, U, 1};
        for (int one : cells) {
            for (int other : cells) {
                x.add(0, one, other, 0, 0);
            }
        }
        x.add(0, 1, U, 0, 0);
        return x;
    }

    private static void related(int what, int due, int dueOtherWay, int dueWithItself) {
        that("the one and the other", pairsOfTruths().compare(0, 0, 1, what), due);
        that("the other and the one", pairsOfTruths().compare(0, 1, 0, what), dueOtherWay);
        that("the one and itself", pairsOfTruths().compare(0, 0, 0, what), dueWithItself);
    }

    private void compare() {
        section("Promise 23: compare");
        holds("Returns a number of the relation of two filters in a table.", () -> {
            that("all numbers", answers(3, pairsOfTruths(), (x, what) -> x.compare(0, 0, 1, what)), "3 3 3");
            that("in the table without rows", answers(3, pairsOfTruths(), (x, what) -> x.compare(1, 0, 1, what)),
                    "0 0 0");
            that("in full tables", answers(3, full(), (x, what) -> x.compare(0, 0, 1, what)), "9 0 7");
            that("in the table 1", answers(3, full(), (x, what) -> x.compare(1, 0, 1, what)), "7 9 0");
        });
        holds("- `table`: 0 or 1", () -> only(0, 1, INDEX, Expect::sample, (x, n) -> x.compare(n, 0, 1, 0)));
        holds("- `one`: 0 to 5", () -> {
            only(0, 5, INDEX, Expect::sample, (x, n) -> x.compare(0, n, 1, 0));
            that("the slots", answers(6, sixFilters(), (x, slot) -> x.compare(0, slot, 3, 2)), "1 1 1 0 1 1");
        });
        holds("- `other`: 0 to 5", () -> {
            only(0, 5, INDEX, Expect::sample, (x, n) -> x.compare(0, 1, n, 0));
            that("the slots", answers(6, sixFilters(), (x, slot) -> x.compare(0, 3, slot, 1)), "1 1 1 0 1 1");
        });
        holds("- `what`: 0 the number of rows for which both have the same truth value,", () -> related(0, 3, 3, 10));
        holds("1 the number of rows for which the one is TRUE and the other is not,", () -> related(1, 3, 2, 0));
        holds("2 the number of rows for which the one is less than the other", () -> related(2, 3, 4, 0));
        holds("Returns the number; NONE if one of the slots is empty.", () -> {
            for (int by = 0; by < 3; by++) {
                int what = by;
                that("the one is empty", pairsOfTruths().compare(0, 2, 1, what), NONE);
                that("the other is empty", pairsOfTruths().compare(0, 0, 5, what), NONE);
                that("both are empty", new TruthFilters().compare(1, 0, 0, what), NONE);
            }
            that("sixteen rows", full().compare(1, 0, 0, 0), 16);
        });
        holds("Throws `IndexOutOfBoundsException` if there is no such table or slot", () -> {
            noTable((x, n) -> x.compare(n, 0, 1, 0));
            noSlot((x, n) -> x.compare(0, n, 1, 0));
            noSlot((x, n) -> x.compare(0, 1, n, 0));
        });
        holds("Throws `IllegalArgumentException` if what is not 0 to 2", () -> {
            notUpTo(2, (x, n) -> x.compare(0, 0, 1, n));
            notUpTo(2, (x, n) -> x.compare(0, 5, 5, n));
        });
    }

    private static void certain(String text, int a, int b, int c, int d, int due) {
        TruthFilters x = withRow(text, a, b, c, d);
        that("certain of " + text + " for " + Expect.rowText(x, 0, 0), x.certain(0, 0, 0), due);
    }

    private void certain() {
        section("Promise 24: certain");
        holds("Tells how certain a filter is for a row: whether it would be TRUE whatever values the unknown cells in "
                + "the columns of its tests had, where an inquiry stays as it is now.", SentencesOfQueries::howCertain);
        holds("(The values are taken from 0 to 99.)", () -> {
            certain("a<0", U, 2, 3, 4, 0);
            certain("a>99", U, 2, 3, 4, 0);
            certain("a>0|a=0", U, 2, 3, 4, 2);
            certain("a<99|a=99", U, 2, 3, 4, 2);
            certain("a>0", U, 2, 3, 4, 1);
            certain("a<99", U, 2, 3, 4, 1);
            certain("a<b", U, 0, 3, 4, 0);
            certain("a>b", U, 99, 3, 4, 0);
            certain("!a>b", U, 99, 3, 4, 2);
            certain("a>98&b>a", U, U, 3, 4, 0);
            certain("a>97&b>a", U, U, 3, 4, 1);
            certain("a<1&b<a", U, U, 3, 4, 0);
            certain("a<2&b<a", U, U, 3, 4, 1);
        });
        holds("- `table`: 0 or 1", () -> only(0, 1, INDEX, Expect::sample, (x, n) -> x.certain(n, 0, 0)));
        holds("- `row`: its number", () -> {
            only(0, 15, INDEX, Sentences::full, (x, n) -> x.certain(1, n, 0));
            only(0, 1, INDEX, Expect::sample, (x, n) -> x.certain(0, n, 0));
            that("the rows", answers(2, Expect.sample(), (x, row) -> x.certain(0, row, 0)), "2 1");
        });
        holds("- `slot`: 0 to 5", () -> {
            only(0, 5, INDEX, Expect::sample, (x, n) -> x.certain(0, 0, n));
            that("the slots", answers(6, sixFilters(), (x, slot) -> x.certain(0, 0, slot)), "0 0 0 2 0 0");
        });
        certainAnswers();
        holds("Throws `IndexOutOfBoundsException` if there is no such table, row or slot", () -> {
            noTable((x, n) -> x.certain(n, 0, 0));
            noRow(0, (x, n) -> x.certain(0, n, 0));
            noRow(1, (x, n) -> x.certain(1, n, 5));
            noSlot((x, n) -> x.certain(0, 0, n));
        });
    }

    private static void howCertain() {
        certain("a=2", U, 2, 3, 4, 1);
        certain("a=2|!a=2", U, 2, 3, 4, 2);
        certain("a=2&!a=2", U, 2, 3, 4, 0);
        certain("a=a", U, 2, 3, 4, 2);
        certain("a<5|a>4", U, 2, 3, 4, 2);
        certain("a<5|a>5", U, 2, 3, 4, 1);
        certain("a<b|a=b|a>b", U, U, 3, 4, 2);
        certain("a<b|b<a", U, U, 3, 4, 1);
        certain("b=2|a=1", U, 2, 3, 4, 2);
        certain("a=1&b=1", U, 2, 3, 4, 0);
        certain("a?", U, 2, 3, 4, 2);
        certain("!a?", U, 2, 3, 4, 0);
        certain("a?&a=1", U, 2, 3, 4, 1);
        certain("a?&a=a", U, 2, 3, 4, 2);
        certain("b?|a=a", U, 2, 3, 4, 2);
        certain("b?&a=a", U, 2, 3, 4, 0);
        certain("!(a>40&a<b&b<42)", U, U, 3, 4, 2);
        certain("!(a>40&a<b&b<43)", U, U, 3, 4, 1);
        for (int known = 0; known < 4; known++) {
            for (int open = 0; open < 4; open++) {
                if (open != known) {
                    comparedWithAKnownCell((char) ('a' + open), (char) ('a' + known));
                }
            }
        }
    }

    private static void comparedWithAKnownCell(char open, char known) {
        int[] cells = {7, 7, 7, 7};
        cells[open - 'a'] = U;
        cells[known - 'a'] = 50;
        String[] texts = {open + "=" + known, open + "<" + known + "|" + open + ">" + known,
            "!" + open + "=" + known + "|" + known + "=" + open,
                    open + ">" + known + "&" + open + "<52&!" + open + "=51"};
        int[] due = {1, 1, 2, 0};
        for (int i = 0; i < 4; i++) {
            certain(texts[i], cells[0], cells[1], cells[2], cells[3], due[i]);
        }
    }

    private void certainAnswers() {
        holds("Returns 2 if it would be TRUE for all values, 0 if it would be FALSE for all values, otherwise 1;",
                () -> {
            for (int value = 0; value < 100; value++) {
                certain("a=" + value, U, 0, 0, 0, 1);
                certain("a<" + value + "|a=" + value + "|a>" + value, U, 0, 0, 0, 2);
                certain("a<" + value + "&!a<" + value, U, 0, 0, 0, 0);
                certain("a=b", U, value, 0, 0, 1);
                certain("a=b&b=" + value, U, U, 0, 0, 1);
                certain("a>" + value + "&b=a&b<" + value, U, U, 0, 0, 0);
            }
            certain("a=1", 1, 2, 3, 4, 2);
            certain("a=2", 1, 2, 3, 4, 0);
        });
        holds("NONE if the slot is empty, or more than two of the cells in these columns (those of inquiries, too) "
                + "are unknown.", () -> {
                    TruthFilters x = withRow("a=a", U, U, U, U);
                    that("empty slots", answers(6, x, (y, slot) -> y.certain(0, 0, slot)), "2 -2 -2 -2 -2 -2");
                    certain("a=b|c=1", U, U, U, 4, NONE);
                    certain("a=b|c=d", U, U, U, U, NONE);
                    certain("a=b|c=d", U, U, 3, 3, 2);
                    certain("a=b|c=d", U, 3, U, 4, 1);
                    certain("a?&b?&c?", U, U, U, 4, NONE);
                    certain("a?&b?&c?", U, U, 3, 4, 0);
                    certain("a=1&b=1&c?", U, U, U, 4, NONE);
                    certain("a?|b?|c?|d?", U, U, U, U, NONE);
                    certain("a?&b?", U, U, U, U, 2);
                    certain("c=d", U, U, 4, 4, 2);
                    certain("d?", U, U, U, U, 2);
                });
    }
}
