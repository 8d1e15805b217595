/** Promises 13 to 15: undo and snapshots. */
public final class UndoTest {
    private static final int U = Expect.U;
    private static final int NONE = Expect.NONE;

    public static void main(String[] args) {
        undoOfEachCall();
        callsThatSaveNothing();
        sixStates();
        snapshots();
        goBackIsUndoable();
        outsideOfTheState();
        wrong();
        Expect.end();
    }

    /** Each undoable call with an effect, without one, and refused. */
    private static void undoOfEachCall() {
        Expect.that("the sample has as many saved states as there can be", Expect.sample().count(6), 6);
        Expect.Call[] calls = {
            x -> x.add(1, 5, 5, 5, 5), x -> x.add(0, 9, 5, 5, 5),
            x -> x.change(0, 0, 0, 1), x -> x.change(0, 0, 0, 3), x -> x.change(0, 0, 0, 10),
            x -> x.drop(0, 1), x -> x.drop(1, 0),
            x -> x.combine(3, 0, 1, 2), x -> x.combine(0, 1, 0, 0),
            x -> x.check(0, 1), x -> x.check(1, 0), x -> x.check(0, NONE), x -> x.check(1, NONE),
            x -> x.remove(0, 0), x -> x.remove(1, 1),
            x -> x.update(0, 0, 3, 1), x -> x.update(0, 0, 0, 9), x -> x.update(1, 1, 0, 9),
            x -> x.goBack(0)};
        int[] answers = {1, NONE, 3, 3, NONE, 1, 0, 3, 2, 1, 0, 0, 0, 1, 0, 1, NONE, 0, 3};
        for (int i = 0; i < calls.length; i++) {
            TruthFilters x = Expect.sample();
            x.undo();
            x.undo();
            x.add(0, 4, 4, 4, 4);
            String before = Expect.look(x);
            calls[i].on(x);
            Expect.that("call " + i + " saves a state", x.count(6), 6);
            Expect.that("undo of call " + i, x.undo(), 5);
            Expect.that("the object after undo of call " + i, Expect.look(x), before);
            TruthFilters y = Expect.sample();
            Expect.that("answer of call " + i, calls[i].on(y), answers[i]);
            Expect.that("six states stay after call " + i, y.count(6), 6);
            y.undo();
            Expect.that("undo of call " + i + " on a full history", Expect.table(y, 0), "3,-1,5,8;-1,2,5,7");
        }
    }

    private static void callsThatSaveNothing() {
        TruthFilters x = new TruthFilters();
        x.append('a');
        x.firstError();
        x.clearBuffer();
        x.keep(1);
        x.count(0);
        x.rows(0, 0, 0, 1);
        x.column(0, 0, 0);
        x.share(0, 0);
        x.join(0, 0, 0);
        Expect.that("saved states", x.count(6), 0);
        x.add(0, 1, 1, 1, 1);
        x.keep(1);
        x.cell(0, 0, 0);
        x.truth(0, 0, 0);
        x.certain(0, 0, 0);
        x.among(0, 0, 0);
        x.group(0, 0, 0, 0);
        x.compare(0, 0, 0, 0);
        x.filter(0, 0);
        x.letter(0, 0);
        Expect.that("saved states", x.count(6), 1);
        Expect.that("undo", x.undo(), 0);
        Expect.that("undo saves nothing itself", Expect.outcome(x::undo), "java.lang.IllegalStateException");
    }

    private static void sixStates() {
        TruthFilters x = new TruthFilters();
        for (int i = 0; i < 10; i++) {
            x.add(0, i, i, i, i);
            Expect.that("saved after " + i, x.count(6), Math.min(i + 1, 6));
        }
        for (int left = 5; left >= 0; left--) {
            Expect.that("undo", x.undo(), left);
            Expect.that("rows", x.count(0), left + 4);
        }
        Expect.that("no state is left", Expect.outcome(x::undo), "java.lang.IllegalStateException");
        x.add(0, 50, 50, 50, 50);
        x.add(0, 51, 51, 51, 51);
        Expect.that("undo goes on", x.undo(), 1);
        x.add(0, 52, 52, 52, 52);
        Expect.that("undo of the newest", x.undo(), 1);
        Expect.that("what is there then", x.cell(0, 4, 0), 50);
        Expect.that("undo of the first", x.undo(), 0);
        Expect.that("rows in the end", x.count(0), 4);
    }

    private static void snapshots() {
        TruthFilters x = Expect.put(new TruthFilters(), 0, "a<5");
        x.add(0, 1, U, 3, 4);
        x.add(1, 2, 2, 2, 2);
        Expect.that("keep", x.keep(0), 2);
        String first = Expect.look(x).substring(0, 30);
        x.check(0, 0);
        x.add(0, 9, 9, 9, 9);
        x.add(0, 4, 4, 4, 4);
        Expect.that("keep of another", x.keep(1), 3);
        x.drop(1, 0);
        Expect.that("go back", x.goBack(0), 2);
        Expect.that("the tables", Expect.look(x).substring(0, 30), first);
        Expect.that("refusals", x.count(5), 0);
        Expect.that("no check then", x.add(0, 9, 9, 9, 9), 1);
        Expect.that("go back to the other", x.goBack(1), 3);
        Expect.that("refusals", x.count(5), 1);
        Expect.that("with its check", x.add(0, 9, 9, 9, 9), NONE);
        Expect.that("refusals", x.count(5), 2);
        Expect.that("a snapshot stays as it was", x.goBack(1), 3);
        Expect.that("refusals", x.count(5), 1);
        Expect.that("and stays in its slot", x.goBack(0), 2);
        x.drop(0, 0);
        Expect.that("keep replaces", x.keep(1), 1);
        x.add(1, 8, 8, 8, 8);
        Expect.that("go back to the new one", x.goBack(1), 1);
        Expect.that("the other one is untouched", x.goBack(0), 2);
        Expect.put(x, 3, "c?");
        x.goBack(0);
        Expect.that("slots come back", x.filter(3, 0), NONE);
        Expect.that("keep of nothing", new TruthFilters().keep(1), 0);
    }

    private static void goBackIsUndoable() {
        TruthFilters x = new TruthFilters();
        x.add(0, 1, 1, 1, 1);
        x.keep(0);
        x.add(0, 2, 2, 2, 2);
        x.goBack(0);
        Expect.that("saved", x.count(6), 3);
        Expect.that("undo of goBack", x.undo(), 2);
        Expect.that("rows", x.count(0), 2);
        Expect.that("undo before it", x.undo(), 1);
        Expect.that("rows", x.count(0), 1);
        x.undo();
        Expect.that("a snapshot is not undone", x.goBack(0), 1);
        x.goBack(0);
        Expect.that("goBack to the same is saved", x.count(6), 2);
    }

    /** The buffer and the snapshots are not in the state. */
    private static void outsideOfTheState() {
        TruthFilters x = new TruthFilters();
        Expect.type(x, "a?");
        x.keep(0);
        x.clearBuffer();
        x.add(0, 1, 1, 1, 1);
        Expect.type(x, "b=1");
        x.goBack(0);
        Expect.that("goBack leaves the buffer", x.count(7), 3);
        x.undo();
        Expect.that("undo leaves the buffer", x.define(0), 1);
        Expect.that("its text", Expect.text(x, 0), "b=1");
        x.keep(1);
        x.undo();
        x.undo();
        Expect.that("undo leaves the snapshots", x.goBack(1), 1);
        Expect.that("with the filter", Expect.text(x, 0), "b=1");
    }

    private static void wrong() {
        for (int slot : new int[] {-1, 2, NONE, Integer.MAX_VALUE, Integer.MIN_VALUE}) {
            Expect.refused("keep in slot " + slot, Expect.ARGUMENT, x -> x.keep(slot));
            Expect.refused("goBack to slot " + slot, Expect.ARGUMENT, x -> x.goBack(slot));
        }
        Expect.refused("goBack to the empty slot", Expect.STATE, x -> x.goBack(1));
        Expect.refused("undo of nothing", Expect.STATE, TruthFilters::new, TruthFilters::undo);
    }
}
