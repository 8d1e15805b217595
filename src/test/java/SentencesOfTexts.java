/** The sentences of the sections "Filters" and "Filter text". */
final class SentencesOfTexts extends Sentences {
    /** Texts behind which a factor has to stand, and what completes them. */
    private static final String[] BEFORE_FACTORS = {"", "!", "(", "!!", "((", "!(", "a?&", "b=1|", "(a?&", "(c<d|",
            "a?&!"};
    /** Complete tests, the last sign of which can have no digit behind it. */
    private static final String[] WHOLE_TESTS = {"a?", "d?", "a=0", "b<0", "c>10", "a=99", "b=b", "c<d", "d>a"};

    SentencesOfTexts(Document document) {
        super(document);
    }

    @Override
    void all() {
        filters();
        sizes();
        filterText();
        shortText();
    }

    private void filters() {
        section("Filters");
        holds("A filter is a test, a negation of a filter, a conjunction of filters, or a disjunction of filters.",
                () -> {
            TruthFilters x = filtered("a=1");
            Expect.put(x, 1, "b?");
            that("a test", x.filter(0, 0), 1);
            that("a negation", x.combine(2, 0, 0, 0), 2);
            that("a conjunction", x.combine(3, 2, 1, 1), 4);
            that("a disjunction", x.combine(4, 3, 2, 2), 7);
            that("its text", Expect.text(x, 4), "!a=1&b?|!a=1");
        });
        aside("A test is one of these:");
        holds("- a comparison of a column with a value or with a column by \"=\", \"<\" or \">\": UNKNOWN if a cell "
                + "that is compared is unknown, otherwise TRUE or FALSE;", SentencesOfTexts::comparisons);
        holds("- an inquiry whether the cell in a column is unknown: TRUE or FALSE.", () -> {
            for (int k = 0; k < 4; k++) {
                String text = (char) ('a' + k) + "?";
                truth(text, 2, k == 0 ? U : 0, k == 1 ? U : 0, k == 2 ? U : 0, k == 3 ? U : 0);
                truth(text, 0, k == 0 ? 0 : U, k == 1 ? 0 : U, k == 2 ? 99 : U, k == 3 ? 0 : U);
            }
        });
        holds("There are 6 slots for filters, numbered from 0, which are empty at first.", () -> {
            TruthFilters x = new TruthFilters();
            that("filters", answers(6, x, (y, slot) -> y.filter(slot, 0)), "-2 -2 -2 -2 -2 -2");
            that("filled slots", x.count(2), 0);
            for (int slot = 0; slot < 6; slot++) {
                Expect.put(x, slot, "a=" + slot);
                that("filled slots", x.count(2), slot + 1);
            }
            that("what is in them", answers(6, x, (y, slot) -> y.letter(slot, 2)), "48 49 50 51 52 53");
            noSlot((y, slot) -> y.filter(slot, 0));
        });
    }

    private static void truth(String text, int due, int a, int b, int c, int d) {
        TruthFilters x = withRow(text, a, b, c, d);
        that("truth of " + text + " for " + Expect.rowText(x, 0, 0), x.truth(0, 0, 0), due);
        for (int way = 0; way < 2; way++) {
            that("by way " + way, x.rows(0, 0, due, way), 1);
        }
    }

    private static void comparisons() {
        for (int value : new int[] {0, 1, 9, 10, 50, 98, 99}) {
            for (int cell : new int[] {0, 1, 9, 10, 50, 98, 99}) {
                truth("a=" + value, cell == value ? 2 : 0, cell, U, U, U);
                truth("b<" + value, cell < value ? 2 : 0, U, cell, U, U);
                truth("d>" + value, cell > value ? 2 : 0, U, U, U, cell);
                truth("a=b", cell == value ? 2 : 0, cell, value, U, U);
                truth("b<c", cell < value ? 2 : 0, U, cell, value, U);
                truth("d>a", cell > value ? 2 : 0, value, U, U, cell);
            }
        }
        for (String sign : new String[] {"=", "<", ">"}) {
            truth("c" + sign + "0", 1, 0, 0, U, 0);
            truth("c" + sign + "99", 1, 0, 0, U, 0);
            truth("a" + sign + "b", 1, U, 0, 0, 0);
            truth("a" + sign + "b", 1, 0, U, 0, 0);
            truth("a" + sign + "b", 1, U, U, 0, 0);
            truth("d" + sign + "d", 1, 0, 0, 0, U);
            truth("d" + sign + "d", sign.equals("=") ? 2 : 0, 0, 0, 0, 7);
        }
    }

    private static void numbers(String text, int size, int depth) {
        TruthFilters x = filtered(text);
        that("size of " + text, x.filter(0, 0), size);
        that("depth of " + text, x.filter(0, 1), depth);
    }

    private void sizes() {
        holds("The size of a filter is the number of its tests, negations, conjunctions and disjunctions, where each "
                + "\"&\" and each \"|\" counts as one conjunction or disjunction.", () -> {
                    numbers("a=10", 1, 1);
                    numbers("!a=10", 2, 2);
                    numbers("a?&b?", 3, 2);
                    numbers("a?|b?", 3, 2);
                    numbers("((((a?))&((b?))))", 3, 2);
                    numbers("a?&b?&c?&d?|a?|b?", 11, 6);
                    numbers("!(!a?&!!b?)|c?", 9, 6);
                    numbers("!".repeat(58) + "a?", 59, 59);
                    numbers("a?&".repeat(19) + "a?", 39, 20);
                });
        holds("The depth of a test is 1;", () -> {
            for (String test : WHOLE_TESTS) {
                numbers(test, 1, 1);
                numbers("((" + test + "))", 1, 1);
            }
        });
        holds("the depth of a negation is 1 more than that of its part;", () -> {
            numbers("!a=b", 2, 2);
            numbers("!!a=b", 3, 3);
            numbers("!(a?|b?)", 4, 3);
            numbers("!(a?|!b?)", 5, 4);
        });
        holds("the depth of a conjunction or disjunction of two parts is 1 more than the greater depth of both.",
                () -> {
            for (String joint : new String[] {"&", "|"}) {
                numbers("a?" + joint + "b?", 3, 2);
                numbers("!a?" + joint + "b?", 4, 3);
                numbers("a?" + joint + "!b?", 4, 3);
                numbers("!!a?" + joint + "!b?", 6, 4);
                numbers("!a?" + joint + "!!!b?", 7, 5);
                numbers("(a?" + joint + "b?)" + joint + "(c?" + joint + "d?)", 7, 3);
            }
        });
        holds("Several filters with \"&\" (or \"|\") between them are joined from left to right, two at a time.",
                () -> {
            for (String joint : new String[] {"&", "|"}) {
                numbers("a?" + joint + "b?" + joint + "c?", 5, 3);
                numbers("!!a?" + joint + "b?" + joint + "c?", 7, 5);
                numbers("a?" + joint + "b?" + joint + "!!c?", 7, 4);
                numbers("a?" + joint + "b?" + joint + "c?" + joint + "d?", 7, 4);
                numbers("a?" + joint + "(b?" + joint + "!c?)", 6, 4);
            }
            shortTextIs("(a?&b?)&c?", "a?&b?&c?");
            shortTextIs("((a?|b?)|c?)|d?", "a?|b?|c?|d?");
        });
    }

    private static void error(String text, int due) {
        TruthFilters x = new TruthFilters();
        Expect.type(x, text);
        that("first error of " + text, x.firstError(), due);
    }

    /** Behind the beginning only these characters are no error. */
    private static void onlyBehind(String beginning, String allowed) {
        for (char c = 33; c <= 126; c++) {
            error(beginning + c, beginning.length() + (allowed.indexOf(c) >= 0 ? 1 : 0));
        }
    }

    private static void sizeOf(String text, int due) {
        TruthFilters x = new TruthFilters();
        Expect.type(x, text);
        that("size of " + text, x.define(0), due);
    }

    private static void noText(String text) {
        TruthFilters x = new TruthFilters();
        Expect.type(x, text);
        that("define of " + text, Expect.thrown(x, y -> y.define(0)), ARGUMENT);
    }

    private void filterText() {
        section("Filter text");
        holds("The buffer holds at most 60 characters.", () -> {
            TruthFilters x = new TruthFilters();
            for (int i = 1; i <= 60; i++) {
                that("length", x.append('!'), i);
            }
            that("character 61", Expect.thrown(x, y -> y.append('a')), STATE);
            that("length then", x.count(7), 60);
            sizeOf("!".repeat(58) + "b?", 59);
        });
        holds("It is empty at first.", () -> {
            TruthFilters x = new TruthFilters();
            that("length", x.count(7), 0);
            that("first error", x.firstError(), 0);
            that("define", Expect.thrown(x, y -> y.define(0)), ARGUMENT);
            that("the first character", x.append('d'), 1);
        });
        holds("A filter text is one or more terms with \"|\" between them;", () -> {
            sizeOf("a?", 1);
            sizeOf("a?|b?", 3);
            sizeOf("a?&b?|c?&d?|a?", 9);
            noText("a?|");
            noText("|a?");
            noText("a?||b?");
            noText("a?b?");
        });
        holds("a term is one or more factors with \"&\" between them;", () -> {
            sizeOf("a?&b?", 3);
            sizeOf("!a?&(b?|c?)&d?", 8);
            noText("a?&");
            noText("&a?");
            noText("a?&&b?");
            noText("a?&|b?");
            noText("(a?)(b?)");
            for (String test : WHOLE_TESTS) {
                onlyBehind(test, "&|");
                onlyBehind("(" + test, "&|)");
                onlyBehind("!(" + test + ")", "&|");
            }
        });
        holds("a factor is \"!\" and a factor, or \"(\" and a filter text and \")\", or a test.", () -> {
            sizeOf("!a?", 2);
            sizeOf("!!(!a?)", 4);
            sizeOf("(((a?|b?)))", 3);
            for (String text : new String[] {"!", "(", ")", "()", "(a?", "a?)", "((a?)", "(a?))", "a?!", "a!?", "a?(",
                    "(!)"}) {
                noText(text);
            }
            for (String beginning : BEFORE_FACTORS) {
                onlyBehind(beginning, "!(abcd");
            }
        });
        holds("A test is a letter from \"a\" to \"d\" (the column) and then either \"?\" (the inquiry), or \"=\", "
                + "\"<\" or \">\" and a value from 0 to 99 without leading zeros, or one of these signs and a letter "
                + "from \"a\" to \"d\".", SentencesOfTexts::tests);
        holds("The first error of the buffer is the index of the first character that no filter text, however long, "
                + "can have after the characters before it.", SentencesOfTexts::firstErrors);
    }

    private static void tests() {
        for (char column = 'a'; column <= 'd'; column++) {
            sizeOf(column + "?", 1);
            onlyBehind(Character.toString(column), "?=<>");
            noText(Character.toString(column));
            for (char sign : new char[] {'=', '<', '>'}) {
                onlyBehind("" + column + sign, "abcd0123456789");
                noText("" + column + sign);
                for (int value = 0; value < 100; value++) {
                    sizeOf("" + column + sign + value, 1);
                }
                for (char other = 'a'; other <= 'd'; other++) {
                    sizeOf("" + column + sign + other, 1);
                }
            }
        }
        for (int digit = 1; digit < 10; digit++) {
            onlyBehind("a<" + digit, "0123456789&|");
            onlyBehind("(a<" + digit, "0123456789&|)");
            noText("a=0" + digit);
            noText("a=" + digit + "00");
        }
        for (String text : new String[] {"a=00", "a=100", "a=-1", "a=a0", "a=0a", "a?0", "a??", "e?", "A?", "a=e",
                "a=A", "5=a", "=5", "a<=5", "a==5", "a"}) {
            noText(text);
        }
    }

    private static void firstErrors() {
        error("", 0);
        error("a?|b=10&!(c>d", 13);
        error("(".repeat(60), 60);
        error("!".repeat(60), 60);
        error("(".repeat(58) + "a?", 60);
        error("!".repeat(59) + "a", 60);
        error("a?&".repeat(20), 60);
        error("(".repeat(29) + "a?" + ")".repeat(29), 60);
        error("(".repeat(28) + "a?" + ")".repeat(30), 58);
        error("a?&".repeat(19) + "a?)", 59);
        error("!".repeat(59) + "=", 59);
        error("=" + "a".repeat(59), 0);
        error("a=5:b?", 3);
        error("a=123", 4);
        error("a=012", 3);
        error("a=1=1=1", 3);
        error(")))", 0);
        error("(a?)))", 4);
        error("((a=1)|b=2))&&", 11);
        error("a?&)b?", 3);
        error("(a?|)", 4);
        for (int good = 0; good < 60; good++) {
            error("!".repeat(good) + "~" + "~".repeat(59 - good), good);
        }
    }

    private static void shortTextIs(String text, String due) {
        TruthFilters x = filtered(text);
        that("short text of " + text, Expect.text(x, 0), due);
        that("its length", x.filter(0, 4), due.length());
    }

    private void shortText() {
        holds("The short text of a filter is its filter text with as few parentheses as possible:",
                SentencesOfTexts::eachPairIsNeeded);
        holds("the parts of a conjunction that are disjunctions are in parentheses,", () -> {
            shortTextIs("(a?|b?)&c?", "(a?|b?)&c?");
            shortTextIs("a?&(b?|c?)", "a?&(b?|c?)");
            shortTextIs("(((a?|b?)))&((c?|d?))", "(a?|b?)&(c?|d?)");
            shortTextIs("(a?|b?)&c?&(c?|d?)", "(a?|b?)&c?&(c?|d?)");
        });
        holds("and so is the second part of a conjunction if it is a conjunction,", () -> {
            shortTextIs("a?&(b?&c?)", "a?&(b?&c?)");
            shortTextIs("(a?&b?)&c?", "a?&b?&c?");
            shortTextIs("(a?&b?)&(c?&d?)", "a?&b?&(c?&d?)");
            shortTextIs("a?&(b?&(c?&d?))", "a?&(b?&(c?&d?))");
        });
        holds("the second part of a disjunction if it is a disjunction,", () -> {
            shortTextIs("a?|(b?|c?)", "a?|(b?|c?)");
            shortTextIs("(a?|b?)|c?", "a?|b?|c?");
            shortTextIs("(a?|b?)|(c?|d?)", "a?|b?|(c?|d?)");
            shortTextIs("a?|(b?|(c?|d?))", "a?|(b?|(c?|d?))");
        });
        holds("and the part of a negation if it is a conjunction or a disjunction;", () -> {
            shortTextIs("!(a?&b?)", "!(a?&b?)");
            shortTextIs("!(a?|b?)", "!(a?|b?)");
            shortTextIs("!(!((a?|b?)))", "!!(a?|b?)");
            shortTextIs("!a?&b?", "!a?&b?");
        });
        holds("nothing else is in parentheses.", () -> {
            shortTextIs("(a?)", "a?");
            shortTextIs("(((b<10)))", "b<10");
            shortTextIs("!(a=1)", "!a=1");
            shortTextIs("!(!(a=1))", "!!a=1");
            shortTextIs("(!a?)&(!b?)", "!a?&!b?");
            shortTextIs("(!a?)|(!b?)", "!a?|!b?");
            shortTextIs("(a?&b?)|c?", "a?&b?|c?");
            shortTextIs("a?|(b?&c?)", "a?|b?&c?");
            shortTextIs("(a?&b?)|(c?&d?)", "a?&b?|c?&d?");
            shortTextIs("!(!(a?&b?)|c?)&(d?)", "!(!(a?&b?)|c?)&d?");
            shortTextIs("(".repeat(29) + "a?" + ")".repeat(29), "a?");
        });
    }

    /** A short text tells its filter again, and tells another one without any pair of its parentheses. */
    private static void eachPairIsNeeded() {
        String[] parts = {"a?", "!b=1", "!(a?|b?)", "c?&d?", "c?|d?", "(a?|b?)&c?", "!(c?&d?)"};
        for (String one : parts) {
            for (String other : parts) {
                for (char joint : new char[] {'&', '|'}) {
                    TruthFilters x = filtered("(" + one + ")" + joint + "(" + other + ")");
                    pairsAreNeeded(Expect.text(x, 0), x.filter(0, 0));
                }
            }
        }
    }

    private static void pairsAreNeeded(String text, int size) {
        TruthFilters again = filtered(text);
        that("the short text of " + text, Expect.text(again, 0), text);
        that("its size", again.filter(0, 0), size);
        for (int open = text.indexOf('('); open >= 0; open = text.indexOf('(', open + 1)) {
            int close = partner(text, open);
            String without = text.substring(0, open) + text.substring(open + 1, close) + text.substring(close + 1);
            that(without + " is another filter than " + text, Expect.text(filtered(without), 0).equals(text), false);
        }
    }

    private static int partner(String text, int open) {
        int depth = 0;
        int at = open;
        do {
            depth += text.charAt(at) == '(' ? 1 : text.charAt(at) == ')' ? -1 : 0;
            at++;
        } while (depth > 0);
        return at - 1;
    }
}
