import java.util.function.Supplier;

/** The sentences of the promises 5 to 9, about filters that are made and applied. */
final class SentencesOfFilters extends Sentences {
    SentencesOfFilters(Document document) {
        super(document);
    }

    @Override
    void all() {
        define();
        combine();
        check();
        remove();
        update();
    }

    private void define() {
        section("Promise 5: define");
        holds("Puts the filter that the buffer tells into a slot, and clears the buffer.", () -> {
            TruthFilters x = withText("a=1&(b?|c>d)");
            that("define", x.define(5), 5);
            that("the filter", Expect.text(x, 5), "a=1&(b?|c>d)");
            that("the buffer", x.count(7), 0);
            that("the next text begins anew", x.append('d'), 1);
            that("another slot", Expect.text(x, 0), "a<9");
            Expect.put(x, 5, "d?");
            that("the filter is replaced", Expect.text(x, 5), "d?");
            that("filled slots", x.count(2), 3);
        });
        holds("Undoable.", () -> {
            definedAndUndone(TruthFilters::new, 3, NONE);
            definedAndUndone(Expect::sample, 0, 'a');
            definedAndUndone(Sentences::full, 5, NONE);
        });
        holds("- `slot`: 0 to 5", () -> only(0, 5, INDEX, () -> withText("!a?"), (x, n) -> x.define(n)));
        holds("Returns the size of the filter.", () -> {
            that("one test", withText("d<99").define(0), 1);
            that("in parentheses", withText("((a?)|(b?))").define(0), 3);
            that("a large one", withText("!".repeat(58) + "c?").define(0), 59);
            that("many tests", withText("a?&".repeat(19) + "!b?").define(0), 40);
            that("more than 40", withText("!!".repeat(15) + "a?&".repeat(9) + "b?").define(0), 49);
        });
        holds("Throws `IndexOutOfBoundsException` if there is no such slot", () -> {
            for (int n : new int[] {-1, NONE, 6, 7, Integer.MAX_VALUE, Integer.MIN_VALUE}) {
                outside(n, INDEX, () -> withText("a=1"), (x, slot) -> x.define(slot));
                outside(n, INDEX, () -> withText("a="), (x, slot) -> x.define(slot));
            }
        });
        holds("Throws `IllegalArgumentException` if the buffer is not a complete filter text", () -> {
            for (String text : new String[] {"", "a", "a=", "b<", "!", "(", "(a?", "!(a?|b?", "a?&", "a?|", "a?&!",
                    "a=05", "a=100", "a?)", "x?", "a?b?", "a?|~", "=1", "a=1&&b?", "!".repeat(60), "a?&".repeat(20)}) {
                refused("define of " + text, ARGUMENT, () -> withText(text), x -> x.define(2));
            }
        });
    }

    /** The buffer is no part of the state, so it is not as before. */
    private static void definedAndUndone(Supplier<TruthFilters> maker, int slot, int letterBefore) {
        TruthFilters x = maker.get();
        x.clearBuffer();
        String before = Expect.state(x);
        Expect.type(x, "!d?");
        int saved = x.count(6);
        that("define", x.define(slot), 2);
        that("saved states", x.count(6), Math.min(saved + 1, 6));
        that("its first letter", x.letter(slot, 0), '!');
        x.undo();
        that("the state after undo", Expect.state(x), before);
        that("the first letter", x.letter(slot, 0), letterBefore);
        that("the buffer", x.count(7), 0);
    }

    /** Filters of the sizes 39, 40, 19, 20 and 59 in the slots 0 to 4; the slot 5 is empty. */
    private static TruthFilters largeFilters() {
        TruthFilters x = new TruthFilters();
        int[] sizes = {39, 40, 19, 20, 59};
        for (int slot = 0; slot < 5; slot++) {
            Expect.put(x, slot, "!".repeat(sizes[slot] - 1) + "a?");
        }
        return x;
    }

    private static TruthFilters twoFilters() {
        TruthFilters x = filtered("a=1");
        return Expect.put(x, 1, "b?|c?");
    }

    private void combine() {
        section("Promise 6: combine");
        holds("Combines the filters of two slots to a new one.", () -> {
            TruthFilters x = twoFilters();
            x.combine(5, 0, 1, 1);
            that("the new filter", Expect.text(x, 5), "a=1&(b?|c?)");
            that("the one", Expect.text(x, 0), "a=1");
            that("the other", Expect.text(x, 1), "b?|c?");
            x.combine(0, 0, 1, 2);
            that("in the place of the one", Expect.text(x, 0), "a=1|(b?|c?)");
            x.combine(1, 5, 1, 1);
            that("in the place of the other", Expect.text(x, 1), "a=1&(b?|c?)&(b?|c?)");
            x.combine(5, 5, 5, 2);
            that("of one slot alone", Expect.text(x, 5), "a=1&(b?|c?)|a=1&(b?|c?)");
        });
        holds("Undoable.", () -> {
            undoable("combine", SentencesOfFilters::twoFilters, x -> x.combine(5, 0, 1, 1), 5);
            undoable("combine to the largest", () -> filtered("!".repeat(38) + "a?"), x -> x.combine(0, 0, 5, 0), 40);
            undoable("combine in its own place", Expect::sample, x -> x.combine(0, 0, 0, 0), 2);
        });
        holds("- `slot`: 0 to 5: where the new filter is put", () -> {
            only(0, 5, INDEX, SentencesOfFilters::twoFilters, (x, n) -> x.combine(n, 0, 1, 1));
            for (int slot = 2; slot < 6; slot++) {
                TruthFilters x = twoFilters();
                x.combine(slot, 0, 1, 2);
                that("filled slots", x.count(2), 3);
                that("the filter", x.filter(slot, 0), 5);
            }
        });
        holds("- `one`: 0 to 5", () -> only(0, 5, INDEX, Sentences::sixFilters, (x, n) -> x.combine(0, n, 1, 1)));
        holds("- `other`: 0 to 5, also for the negation (its filter is not looked at then)", () -> {
            only(0, 5, INDEX, Sentences::sixFilters, (x, n) -> x.combine(0, 1, n, 1));
            only(0, 5, INDEX, SentencesOfFilters::twoFilters, (x, n) -> x.combine(0, 1, n, 0));
            that("an empty slot", twoFilters().combine(0, 1, 5, 0), 4);
            that("a large filter", largeFilters().combine(5, 3, 4, 0), 21);
        });
        holds("- `how`: 0 the negation of the one,", () -> {
            combined(0, 1, 0, "!a=1");
            combined(1, 0, 0, "!(b?|c?)");
        });
        holds("1 the conjunction of both,", () -> {
            combined(0, 1, 1, "a=1&(b?|c?)");
            combined(1, 0, 1, "(b?|c?)&a=1");
        });
        holds("2 the disjunction of both", () -> {
            combined(0, 1, 2, "a=1|(b?|c?)");
            combined(1, 0, 2, "b?|c?|a=1");
        });
        holds("Returns the size of the new filter.", () -> {
            that("a negation", twoFilters().combine(2, 1, 0, 0), 4);
            that("a conjunction", twoFilters().combine(2, 1, 1, 1), 7);
            that("a disjunction", twoFilters().combine(2, 0, 0, 2), 3);
        });
        combineThrows();
    }

    private static void combined(int one, int other, int how, String due) {
        TruthFilters x = twoFilters();
        x.combine(4, one, other, how);
        that("the new filter", Expect.text(x, 4), due);
    }

    private void combineThrows() {
        holds("Throws `IndexOutOfBoundsException` if there is no such slot", () -> {
            for (int by = 0; by < 3; by++) {
                int how = by;
                noSlot((x, n) -> x.combine(n, 0, 1, how));
                noSlot((x, n) -> x.combine(0, n, 1, how));
                noSlot((x, n) -> x.combine(0, 1, n, how));
            }
        });
        holds("Throws `IllegalArgumentException` if how is not 0 to 2", () -> {
            notUpTo(2, (x, n) -> x.combine(0, 0, 1, n));
            notUpTo(2, (x, n) -> x.combine(0, 4, 5, n));
        });
        holds("Throws `IllegalStateException` if a slot whose filter is needed is empty,", () -> {
            refused("negation of nothing", STATE, Expect::sample, x -> x.combine(0, 2, 1, 0));
            for (int by = 1; by < 3; by++) {
                int how = by;
                refused("nothing and a filter", STATE, Expect::sample, x -> x.combine(0, 2, 1, how));
                refused("a filter and nothing", STATE, Expect::sample, x -> x.combine(0, 1, 2, how));
                refused("nothing and nothing", STATE, TruthFilters::new, x -> x.combine(0, 0, 0, how));
            }
            that("the slot for the new filter may be empty", Expect.sample().combine(5, 0, 1, 1), 3);
        });
        holds("or the new filter would have a size of more than 40", () -> {
            that("a negation of 40", largeFilters().combine(5, 0, 0, 0), 40);
            that("a conjunction of 40", largeFilters().combine(5, 2, 3, 1), 40);
            that("a disjunction of 40", largeFilters().combine(5, 3, 2, 2), 40);
            refused("a negation of 41", STATE, SentencesOfFilters::largeFilters, x -> x.combine(5, 1, 1, 0));
            refused("a conjunction of 41", STATE, SentencesOfFilters::largeFilters, x -> x.combine(5, 3, 3, 1));
            refused("a disjunction of 41", STATE, SentencesOfFilters::largeFilters, x -> x.combine(3, 3, 3, 2));
            refused("a negation of 60", STATE, SentencesOfFilters::largeFilters, x -> x.combine(4, 4, 4, 0));
            refused("a disjunction of 119", STATE, SentencesOfFilters::largeFilters, x -> x.combine(5, 4, 4, 2));
        });
    }

    private static TruthFilters rows(String text, int... cellsOfColumnA) {
        TruthFilters x = filtered(text);
        for (int cell : cellsOfColumnA) {
            x.add(0, cell, 0, 0, 0);
        }
        return x;
    }

    private void check() {
        section("Promise 7: check");
        holds("Makes the filter of a slot the check of a table, if no row of the table violates it.", () -> {
            TruthFilters x = rows("a<7", 1, U, 6);
            that("check", x.check(0, 0), 0);
            that("it is the check", x.add(0, 7, 0, 0, 0), NONE);
            that("of this table alone", x.add(1, 7, 0, 0, 0), 0);
            that("a row of the other table violates it", x.check(1, 0), 1);
            that("so it is not the check there", x.add(1, 8, 0, 0, 0), 1);
            Expect.put(x, 1, "a<6");
            that("a row violates the new one", x.check(0, 1), 1);
            that("so the old one stays: a row against it", x.add(0, 7, 0, 0, 0), NONE);
            that("a row against the new one", x.add(0, 6, 0, 0, 0), 3);
            Expect.put(x, 2, "b=0");
            that("another one", x.check(0, 2), 0);
            that("takes the place of the old one", x.add(0, 7, 0, 0, 0), 4);
        });
        holds("(Later changes of the slot do not change the check.)", () -> {
            TruthFilters x = rows("a=1", 1);
            x.check(0, 0);
            Expect.put(x, 0, "a=2");
            that("after define", x.add(0, 2, 0, 0, 0), NONE);
            x.combine(0, 0, 0, 0);
            that("after combine", x.add(0, 2, 0, 0, 0), NONE);
            that("it is as it was", x.add(0, 1, 0, 0, 0), 1);
        });
        holds("Undoable, also if it is refused.", () -> {
            undoable("check", () -> rows("a<9", 1, U), x -> x.check(0, 0), 0);
            undoable("a check that is refused", () -> rows("a<9", 9, U), x -> x.check(0, 0), 1);
            undoable("no check", Expect::sample, x -> x.check(0, NONE), 0);
            TruthFilters x = rows("a<9", 1);
            x.check(0, 0);
            x.undo();
            that("after undo there is no check", x.add(0, 9, 0, 0, 0), 1);
            x = rows("a<9", 1);
            x.check(0, 0);
            x.check(0, NONE);
            x.undo();
            that("after undo there is one again", x.add(0, 9, 0, 0, 0), NONE);
        });
        holds("- `table`: 0 or 1", () -> only(0, 1, INDEX, Expect::sample, (x, n) -> x.check(n, 0)));
        holds("- `slot`: 0 to 5, or NONE: the table has no check then", () -> {
            for (int slot = 0; slot < 6; slot++) {
                TruthFilters x = sixFilters();
                that("check by the slot " + slot, x.check(0, slot), slot == 3 ? 0 : 1);
                that("a row that the filter of the slot takes", x.add(0, slot, 0, 0, 0), 1);
                that("a row that none of the filters takes", x.add(0, 99, 0, 0, 0), slot == 3 ? NONE : 2);
            }
            for (int table = 0; table < 2; table++) {
                TruthFilters x = checked("a=1");
                that("before", x.add(table, 2, 0, 0, 0), NONE);
                that("no check", x.check(table, NONE), 0);
                that("then", x.add(table, 2, 0, 0, 0), 0);
                that("the other table has its own", x.add(1 - table, 2, 0, 0, 0), NONE);
                that("no check again", x.check(table, NONE), 0);
            }
            that("no check in a new object", new TruthFilters().check(1, NONE), 0);
        });
        checkAnswers();
    }

    private void checkAnswers() {
        holds("Returns how many rows violate it; 0 if it is the check then.", () -> {
            for (int violating = 0; violating <= 16; violating++) {
                TruthFilters x = full();
                Expect.put(x, 2, violating == 0 ? "a>0|a=0" : "a>" + (violating - 1));
                that("rows that violate it", x.check(0, 2), violating);
                that("refusals", x.count(5), violating == 0 ? 0 : 1);
            }
            that("rows for which it is unknown", Expect.put(full(), 2, "d=1").check(0, 2), 0);
            that("without rows", filtered("a<0").check(0, 0), 0);
        });
        holds("Throws `IndexOutOfBoundsException` if there is no such table or slot", () -> {
            noTable((x, n) -> x.check(n, 0));
            noTable((x, n) -> x.check(n, NONE));
            for (int n : new int[] {-1, -3, 6, 7, 256, Integer.MAX_VALUE, Integer.MIN_VALUE}) {
                outside(n, INDEX, Expect::sample, (x, slot) -> x.check(0, slot));
                outside(n, INDEX, TruthFilters::new, (x, slot) -> x.check(1, slot));
            }
        });
        holds("Throws `IllegalStateException` if the slot is empty", () -> {
            for (int slot = 2; slot < 6; slot++) {
                outside(slot, STATE, Expect::sample, (x, n) -> x.check(0, n));
                outside(slot, STATE, Sentences::full, (x, n) -> x.check(1, n));
            }
            outside(0, STATE, TruthFilters::new, (x, n) -> x.check(0, n));
        });
    }

    private static void removed(String text, int due, String left) {
        TruthFilters x = rows(text, 1, U, 3, 1);
        x.add(1, 1, 0, 0, 0);
        that("remove by " + text, x.remove(0, 0), due);
        that("the rows that are left", answers(x.count(0), x, (y, r) -> y.cell(0, r, 0)), left);
        that("the other table", x.count(1), 1);
        that("refusals", x.count(5), 0);
    }

    private void remove() {
        section("Promise 8: remove");
        holds("Removes all rows for which a filter is TRUE.", () -> {
            removed("a=1", 2, "-1 3");
            removed("!a=1", 1, "1 -1 1");
            removed("a?", 1, "1 3 1");
            removed("a=3", 1, "1 -1 1");
            removed("a?|a=1", 3, "3");
            removed("b=0", 4, "");
            removed("a=2", 0, "1 -1 3 1");
            removed("a<0|a>99", 0, "1 -1 3 1");
            TruthFilters x = rows("a=1", 1);
            x.check(0, 0);
            that("a check hinders no removal", x.remove(0, 0), 1);
        });
        holds("Undoable.", () -> {
            undoable("remove of some rows", Sentences::full, x -> x.remove(0, 0), 9);
            undoable("remove of all rows", Sentences::full, x -> x.remove(0, 1), 16);
            undoable("remove of no row", Sentences::full, x -> x.remove(1, 1), 0);
        });
        holds("- `table`: 0 or 1", () -> only(0, 1, INDEX, Expect::sample, (x, n) -> x.remove(n, 0)));
        holds("- `slot`: 0 to 5", () -> only(0, 5, INDEX, Sentences::sixFilters, (x, n) -> x.remove(1, n)));
        holds("Returns how many rows are removed.", () -> {
            for (int gone = 0; gone <= 16; gone++) {
                TruthFilters x = Expect.put(full(), 2, "a<" + gone);
                that("removed", x.remove(1, 2), gone);
                that("left", x.count(1), 16 - gone);
                that("once more", x.remove(1, 2), 0);
            }
            that("without rows", filtered("a?").remove(0, 0), 0);
        });
        holds("Throws `IndexOutOfBoundsException` if there is no such table or slot", () -> {
            noTable((x, n) -> x.remove(n, 0));
            noSlot((x, n) -> x.remove(0, n));
        });
        holds("Throws `IllegalStateException` if the slot is empty", () -> {
            for (int slot = 2; slot < 6; slot++) {
                outside(slot, STATE, Expect::sample, (x, n) -> x.remove(0, n));
            }
            outside(0, STATE, TruthFilters::new, (x, n) -> x.remove(1, n));
        });
    }

    private static TruthFilters pairsOfAAndB() {
        TruthFilters x = filtered("a<b");
        x.add(0, 1, 9, 0, 0);
        x.add(0, U, 8, 0, 0);
        x.add(0, 3, 7, 0, 0);
        x.add(0, 1, 6, 0, 0);
        x.check(0, 0);
        Expect.put(x, 1, "b>6");
        return Expect.put(x, 2, "a=1");
    }

    private void update() {
        section("Promise 9: update");
        holds("Changes the cells of a column in all rows for which a filter is TRUE (as the rows are before the "
                + "call), unless one of these rows would violate the check then.", () -> {
                    TruthFilters x = pairsOfAAndB();
                    that("rows for which it is unknown are left", x.update(0, 2, 3, 5), 2);
                    that("the table", Expect.table(x, 0), "1,9,0,5;-1,8,0,0;3,7,0,0;1,6,0,5");
                    that("the column of the filter", x.update(0, 2, 0, 2), 2);
                    that("the table", Expect.table(x, 0), "2,9,0,5;-1,8,0,0;3,7,0,0;2,6,0,5");
                    that("the third one would violate it", x.update(0, 1, 0, 7), NONE);
                    that("the table", Expect.table(x, 0), "2,9,0,5;-1,8,0,0;3,7,0,0;2,6,0,5");
                    that("another row would, but is none of these", x.update(0, 1, 0, 6), 3);
                    that("the table", Expect.table(x, 0), "6,9,0,5;6,8,0,0;6,7,0,0;2,6,0,5");
                    that("the check is UNKNOWN then", x.update(0, 1, 1, U), 3);
                    that("the table", Expect.table(x, 0), "6,-1,0,5;6,-1,0,0;6,-1,0,0;2,6,0,5");
                });
        holds("Undoable, also if it is refused.", () -> {
            undoable("update", SentencesOfFilters::pairsOfAAndB, x -> x.update(0, 2, 0, 5), 2);
            undoable("an update that is refused", SentencesOfFilters::pairsOfAAndB, x -> x.update(0, 2, 0, 6), NONE);
            undoable("update of all cells of a column", Sentences::full, x -> x.update(0, 1, 3, 1), 16);
            undoable("update of no row", Sentences::full, x -> x.update(1, 1, 3, 1), 0);
        });
        holds("- `table`: 0 or 1", () -> only(0, 1, INDEX, Expect::sample, (x, n) -> x.update(n, 0, 3, 1)));
        holds("- `slot`: 0 to 5",
                () -> only(0, 5, INDEX, Sentences::sixFilters, (x, n) -> x.update(1, n, 3, 1)));
        holds("- `column`: 0 to 3", () -> {
            only(0, 3, INDEX, Expect::sample, (x, n) -> x.update(1, 0, n, 1));
            that("column a", updatedRow(0), "5,2,2,2");
            that("column b", updatedRow(1), "2,5,2,2");
            that("column c", updatedRow(2), "2,2,5,2");
            that("column d", updatedRow(3), "2,2,2,5");
        });
        holds("- `value`: 0 to 99, or UNKNOWN_CELL", () -> {
            only(U, 99, ARGUMENT, Expect::sample, (x, n) -> x.update(1, 0, 3, n));
            for (int n = U; n <= 99; n++) {
                TruthFilters x = withRow("a=2", 2, 2, 2, 2);
                that("update", x.update(0, 0, 0, n), 1);
                that("the cell", x.cell(0, 0, 0), n);
            }
        });
        updateAnswers();
    }

    private static String updatedRow(int column) {
        TruthFilters x = withRow("a=2", 2, 2, 2, 2);
        x.update(0, 0, column, 5);
        return Expect.rowText(x, 0, 0);
    }

    private void updateAnswers() {
        holds("Returns in how many rows the cell is changed or would stay as it is; NONE if the changes are refused "
                + "(then no cell is changed).", () -> {
                    TruthFilters x = full();
                    that("none", x.update(1, 1, 0, 5), 0);
                    that("nine rows", x.update(0, 0, 2, 8), 9);
                    that("as they are", x.update(0, 0, 2, 8), 9);
                    that("one of nine as it is", x.update(1, 0, 0, 8), 9);
                    that("sixteen rows", x.update(0, 1, 3, U), 16);
                    that("without rows", filtered("a?").update(1, 0, 0, 0), 0);
                    TruthFilters refusing = Expect.put(full(), 2, "a=0|!c=0");
                    refusing.check(0, 2);
                    String before = Expect.table(refusing, 0);
                    that("the second row would violate it", refusing.update(0, 0, 2, 0), NONE);
                    that("the table", Expect.table(refusing, 0), before);
                    that("refusals", refusing.count(5), 1);
                    Expect.put(refusing, 3, "a=15|a=0");
                    that("the last row would violate it", refusing.update(0, 3, 2, 0), NONE);
                    that("the table", Expect.table(refusing, 0), before);
                    Expect.put(refusing, 3, "a=0");
                    that("the first row would not", refusing.update(0, 3, 2, 0), 1);
                    that("the table", Expect.rowText(refusing, 0, 0), "0,99,0,-1");
                });
        holds("Throws `IndexOutOfBoundsException` if there is no such table, slot or column", () -> {
            noTable((x, n) -> x.update(n, 0, 0, 1));
            noSlot((x, n) -> x.update(0, n, 0, 1));
            noColumn((x, n) -> x.update(0, 0, n, 1));
        });
        holds("Throws `IllegalArgumentException` if value is out of range", () -> {
            badValue((x, n) -> x.update(0, 0, 0, n));
            badValue((x, n) -> x.update(0, 5, 0, n));
            badValue((x, n) -> x.update(1, 1, 3, n));
        });
        holds("Throws `IllegalStateException` if the slot is empty", () -> {
            for (int slot = 2; slot < 6; slot++) {
                outside(slot, STATE, Expect::sample, (x, n) -> x.update(0, n, 0, 1));
            }
            outside(0, STATE, TruthFilters::new, (x, n) -> x.update(1, n, 0, 1));
        });
    }
}
