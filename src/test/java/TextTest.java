/** Promises 5, 10 to 12, 21 and 22: the buffer, filter texts, their first errors, short texts and numbers. */
public final class TextTest {
    private static final int NONE = Expect.NONE;
    private static final int[] NO_SLOTS = {-1, 6, NONE, Integer.MAX_VALUE, Integer.MIN_VALUE};

    public static void main(String[] args) {
        appendAndClear();
        appendWrong();
        firstErrors();
        defineOrdinary();
        defineWrong();
        shortTexts();
        numbers();
        numbersWrong();
        letters();
        Expect.end();
    }

    private static String repeat(String text, int times) {
        return text.repeat(times);
    }

    private static void appendAndClear() {
        TruthFilters x = new TruthFilters();
        Expect.that("clear of the empty buffer", x.clearBuffer(), 0);
        Expect.that("append of the least code", x.append(33), 1);
        Expect.that("append of the greatest code", x.append(126), 2);
        Expect.that("length", x.count(7), 2);
        Expect.that("clear", x.clearBuffer(), 2);
        Expect.that("length after clear", x.count(7), 0);
        Expect.that("append after clear", x.append('a'), 1);
        Expect.that("the old text is gone", x.firstError(), 1);
        Expect.that("nothing is saved", x.count(6), 0);
        x.add(0, 1, 2, 3, 4);
        x.append('?');
        x.undo();
        Expect.that("undo leaves the buffer", x.count(7), 2);
        Expect.that("define of it", x.define(0), 1);
        x.append('b');
        x.undo();
        Expect.that("undo of define leaves the buffer", x.count(7), 1);
    }

    private static TruthFilters withBuffer(String text) {
        TruthFilters x = Expect.sample();
        x.clearBuffer();
        Expect.type(x, text);
        return x;
    }

    private static void appendWrong() {
        for (int code : new int[] {32, 127, 0, -1, 97 + 65536, Integer.MAX_VALUE, Integer.MIN_VALUE}) {
            Expect.refused("append of " + code, Expect.ARGUMENT, x -> x.append(code));
        }
        String full = repeat("a?&", 20);
        Expect.refused("append to the full buffer", Expect.STATE, () -> withBuffer(full),
                x -> x.append('a'));
        Expect.refused("append of a bad code to the full buffer", Expect.ARGUMENT, () -> withBuffer(full),
                x -> x.append(32));
        TruthFilters x = new TruthFilters();
        Expect.type(x, repeat("!", 59));
        Expect.that("the sixtieth character", x.append('a'), 60);
        Expect.that("clear of the full buffer", x.clearBuffer(), 60);
        Expect.that("room again", x.append('a'), 1);
    }

    private static void error(String text, int due) {
        TruthFilters x = new TruthFilters();
        Expect.type(x, text);
        Expect.that("first error of " + text, x.firstError(), due);
        Expect.that("the buffer stays", x.clearBuffer(), text.length());
        Expect.that("nothing is saved", x.count(6), 0);
    }

    private static void firstErrors() {
        for (String whole : new String[] {"", "a", "a=", "a=b", "d>d", "a=0", "a=9", "a=99", "a=10", "!", "!!", "(",
                "((",
                "!(", "(a?", "(a?)", "((a?)", "a?&", "a?|", "a?&!", "a?&(", "a=1|b<2&c>3", "b?", "(!(a=5))&d"}) {
            error(whole, whole.length());
        }
        error(repeat("(", 60), 60);
        error(repeat("!", 60), 60);
        error("a=05", 3);
        error("a=00", 3);
        error("a=100", 4);
        error("a=999", 4);
        error("a=1a", 3);
        error("a=1=", 3);
        error("a=b1", 3);
        error("a=bc", 3);
        error("a=b=c", 3);
        error("a=b?", 3);
        error("a??", 2);
        error("a?a", 2);
        error("a?!", 2);
        error("a?(", 2);
        error("a!", 1);
        error("a&", 1);
        error("ab", 1);
        error("a1", 1);
        error("a)", 1);
        error("a==", 2);
        error("a=!", 2);
        error("a=?", 2);
        error("a=(", 2);
        error("a=e", 2);
        error("a=-1", 2);
        error("a=1)", 3);
        error("a?)", 2);
        error("(a?))", 4);
        error("()", 1);
        error("(&", 1);
        error("!)", 1);
        error("!&", 1);
        error(")", 0);
        error("&", 0);
        error("|", 0);
        error("=", 0);
        error("?", 0);
        error("5", 0);
        error("e?", 0);
        error("A?", 0);
        error("`", 0);
        error("a?&&", 3);
        error("a?||", 3);
        error("a?&)", 3);
        error("(a?|)", 4);
        error("a?&|", 3);
        error("a=5&b", 5);
        error("a=5:", 3);
        error("a=/", 2);
        error("a~b", 1);
        error("e", 0);
        error(")a?", 0);
        error("a=1x&b?", 3);
        error(repeat("(", 29) + "a?" + repeat(")", 29), 60);
        error(repeat("(", 28) + "a?" + repeat(")", 30), 58);
    }

    private static int size(String text) {
        TruthFilters x = new TruthFilters();
        Expect.type(x, text);
        return x.define(5);
    }

    private static void defineOrdinary() {
        Expect.that("size of a test", size("a=0"), 1);
        Expect.that("size of an inquiry", size("d?"), 1);
        Expect.that("size of a negation", size("!a<b"), 2);
        Expect.that("size of a conjunction", size("a?&b?"), 3);
        Expect.that("size of three", size("a?&b?|c?"), 5);
        Expect.that("parentheses have no size", size("((a?)&((b?)))"), 3);
        Expect.that("size of 58 negations", size(repeat("!", 58) + "a?"), 59);
        Expect.that("size of 20 tests", size(repeat("a?&", 19) + "a?"), 39);
        Expect.that("size of 12 tests", size(repeat("a=99|", 10) + "b=7&!c?"), 24);
        Expect.that("size in 29 parentheses", size(repeat("(", 29) + "a?" + repeat(")", 29)), 1);
        TruthFilters x = new TruthFilters();
        Expect.type(x, "a=1");
        Expect.that("define", x.define(3), 1);
        Expect.that("the buffer is clear", x.count(7), 0);
        Expect.that("saved", x.count(6), 1);
        Expect.that("slots", x.count(2), 1);
        Expect.put(x, 3, "b<22&c?");
        Expect.that("a slot is replaced", Expect.text(x, 3), "b<22&c?");
        x.undo();
        Expect.that("undo of define", Expect.text(x, 3), "a=1");
        x.undo();
        Expect.that("undo of the first define", x.filter(3, 0), NONE);
    }

    private static void defineWrong() {
        for (int slot : NO_SLOTS) {
            Expect.refused("define of slot " + slot, Expect.INDEX, x -> x.define(slot));
            Expect.refused("define of a bad text, slot " + slot, Expect.INDEX, () -> withBuffer("a"),
                    x -> x.define(slot));
        }
        for (String text : new String[] {"", "a", "a=", "a<", "!", "(", "(a?", "((a?)", "a?&", "a?|", "a=05", "a=100",
                "a=1)", "e?", "a=1&&b?", "()", "a?b?", "a=e", "!!", "a?&(b?", "a=1)&(b=2", "a=-1", "a?~"}) {
            Expect.refused("define of " + text, Expect.ARGUMENT, () -> withBuffer(text), x -> x.define(2));
        }
    }

    private static void shortText(String text, String due) {
        TruthFilters x = Expect.put(new TruthFilters(), 0, text);
        Expect.that("short text of " + text, Expect.text(x, 0), due);
        TruthFilters again = Expect.put(new TruthFilters(), 0, due);
        Expect.that("short text of the short text", Expect.text(again, 0), due);
        Expect.that("its size", again.filter(0, 0), x.filter(0, 0));
    }

    private static void shortTexts() {
        shortText("a=0", "a=0");
        shortText("d>99", "d>99");
        shortText("b<10", "b<10");
        shortText("c=9", "c=9");
        shortText("((a=b))", "a=b");
        shortText("!(a?)", "!a?");
        shortText("(!(!((a?))))", "!!a?");
        shortText("!(a?&b?)", "!(a?&b?)");
        shortText("!(a?|b?)", "!(a?|b?)");
        shortText("(!a?)&b?", "!a?&b?");
        shortText("!a?|!b?", "!a?|!b?");
        shortText("(a?&b?)&c?", "a?&b?&c?");
        shortText("a?&(b?&c?)", "a?&(b?&c?)");
        shortText("(a?|b?)|c?", "a?|b?|c?");
        shortText("a?|(b?|c?)", "a?|(b?|c?)");
        shortText("(a?&b?)|c?", "a?&b?|c?");
        shortText("a?|(b?&c?)", "a?|b?&c?");
        shortText("(a?|b?)&c?", "(a?|b?)&c?");
        shortText("a?&(b?|c?)", "a?&(b?|c?)");
        shortText("(a?|b?)&(c?|d?)", "(a?|b?)&(c?|d?)");
        shortText("(a?&b?)|(c?&d?)", "a?&b?|c?&d?");
        shortText("((a?|b?)&c?)&d?", "(a?|b?)&c?&d?");
        shortText("!(!(a?&b?)|c?)&(d?)", "!(!(a?&b?)|c?)&d?");
        shortText("a?|(b?|(c?|(d?)))", "a?|(b?|(c?|d?))");
        shortText(repeat("!", 58) + "a?", repeat("!", 58) + "a?");
    }

    private static void numbers(String text, int size, int depth, int tests, int columns, int length) {
        TruthFilters x = Expect.put(new TruthFilters(), 4, text);
        int[] due = {size, depth, tests, columns, length};
        for (int what = 0; what < 5; what++) {
            Expect.that("filter(" + what + ") of " + text, x.filter(4, what), due[what]);
        }
        Expect.that("nothing is saved", x.count(6), 1);
    }

    private static void numbers() {
        numbers("a=5", 1, 1, 1, 1, 3);
        numbers("d?", 1, 1, 1, 8, 2);
        numbers("b<c", 1, 1, 1, 6, 3);
        numbers("c>c", 1, 1, 1, 4, 3);
        numbers("a>2", 1, 1, 1, 1, 3);
        numbers("!a=5", 2, 2, 1, 1, 4);
        numbers("a?&b?&c?&d?", 7, 4, 4, 15, 11);
        numbers("a?&(b?&(c?&d?))", 7, 4, 4, 15, 15);
        numbers("(a?&b?)|(c?&d?)", 7, 3, 4, 15, 11);
        numbers("a?|!!!b=99", 6, 5, 2, 3, 10);
        numbers("!!!b=99|a?", 6, 5, 2, 3, 10);
        numbers(repeat("!", 58) + "a?", 59, 59, 1, 1, 60);
        numbers(repeat("a?&", 19) + "a?", 39, 20, 20, 1, 59);
    }

    private static void numbersWrong() {
        TruthFilters x = new TruthFilters();
        for (int what = 0; what < 5; what++) {
            Expect.that("number of an empty slot", x.filter(what, what), NONE);
        }
        for (int slot : NO_SLOTS) {
            Expect.refused("filter of slot " + slot, Expect.INDEX, y -> y.filter(slot, 5));
            Expect.refused("letter of slot " + slot, Expect.INDEX, y -> y.letter(slot, -1));
        }
        for (int what : new int[] {-1, 5, Integer.MAX_VALUE, Integer.MIN_VALUE}) {
            Expect.refused("filter by " + what, Expect.ARGUMENT, y -> y.filter(0, what));
            Expect.refused("empty filter by " + what, Expect.ARGUMENT, y -> y.filter(3, what));
        }
        for (int index : new int[] {-1, NONE, Integer.MIN_VALUE}) {
            Expect.refused("letter " + index, Expect.ARGUMENT, y -> y.letter(0, index));
            Expect.refused("letter of an empty slot", Expect.ARGUMENT, y -> y.letter(3, index));
        }
    }

    private static void letters() {
        TruthFilters x = Expect.put(new TruthFilters(), 1, "!((a=10)|(b?))");
        String due = "!(a=10|b?)";
        for (int i = 0; i < due.length(); i++) {
            Expect.that("letter " + i, x.letter(1, i), due.charAt(i));
        }
        Expect.that("letter behind the text", x.letter(1, due.length()), NONE);
        Expect.that("letter far behind", x.letter(1, Integer.MAX_VALUE), NONE);
        Expect.that("letter of an empty slot", x.letter(0, 0), NONE);
        longestText();
    }

    private static void longestText() {
        TruthFilters x = new TruthFilters();
        Expect.put(x, 0, "a>10");
        Expect.put(x, 2, "d=98");
        for (int i = 0; i < 19; i++) {
            x.combine(2, 0, 2, 2);
        }
        x.combine(2, 2, 2, 0);
        StringBuilder due = new StringBuilder();
        for (int i = 0; i < 19; i++) {
            due.append(i == 0 ? "!(" : "(").append("a>10|");
        }
        due.append("d=98").append(")".repeat(19));
        Expect.that("the longest text", Expect.text(x, 2), due.toString());
        Expect.that("its size", x.filter(2, 0), 40);
        Expect.that("its depth", x.filter(2, 1), 21);
        Expect.that("its length", x.filter(2, 4), 138);
        Expect.that("its last letter", x.letter(2, 137), ')');
        Expect.that("the letter behind it", x.letter(2, 138), NONE);
    }
}
