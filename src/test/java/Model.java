import java.util.ArrayDeque;
import java.util.ArrayList;
import java.util.Arrays;
import java.util.Deque;
import java.util.List;
import java.util.TreeMap;
import java.util.TreeSet;

/**
 * The document once more, written another way than the program: filters are trees, unknown cells are null, states are
 * copied whole, certainty tries all values, and the first error is found by trying to complete each beginning.
 */
final class Model {
    static final int NONE = -2;

    interface Node {
        /** The row may have values on trial; the inquiries ask the row as it is. */
        int truth(Integer[] row, Integer[] asItIs);

        int size();

        int depth();

        void tests(List<Test> list);

        String text();
    }

    record Test(int column, char sign, Integer value, Integer other) implements Node {
        public int truth(Integer[] row, Integer[] asItIs) {
            if (sign == '?') {
                return asItIs[column] == null ? 2 : 0;
            }
            Integer left = row[column];
            Integer right = other != null ? row[other] : value;
            if (left == null || right == null) {
                return 1;
            }
            int order = left.compareTo(right);
            return "<=>".indexOf(sign) - 1 == order ? 2 : 0;
        }

        public int size() {
            return 1;
        }

        public int depth() {
            return 1;
        }

        public void tests(List<Test> list) {
            list.add(this);
        }

        public String text() {
            String right = sign == '?' ? "" : other != null ? "" + (char) ('a' + other) : "" + value;
            return (char) ('a' + column) + "" + sign + right;
        }
    }

    record Not(Node part) implements Node {
        public int truth(Integer[] row, Integer[] asItIs) {
            return 2 - part.truth(row, asItIs);
        }

        public int size() {
            return 1 + part.size();
        }

        public int depth() {
            return 1 + part.depth();
        }

        public void tests(List<Test> list) {
            part.tests(list);
        }

        public String text() {
            return part instanceof Pair ? "!(" + part.text() + ")" : "!" + part.text();
        }
    }

    record Pair(char sign, Node one, Node two) implements Node {
        public int truth(Integer[] row, Integer[] asItIs) {
            int first = one.truth(row, asItIs);
            int second = two.truth(row, asItIs);
            return sign == '&' ? Math.min(first, second) : Math.max(first, second);
        }

        public int size() {
            return 1 + one.size() + two.size();
        }

        public int depth() {
            return 1 + Math.max(one.depth(), two.depth());
        }

        public void tests(List<Test> list) {
            one.tests(list);
            two.tests(list);
        }

        public String text() {
            boolean wrapOne = sign == '&' && one instanceof Pair p && p.sign == '|';
            boolean wrapTwo = two instanceof Pair p && (p.sign == sign || sign == '&');
            return wrap(one, wrapOne) + sign + wrap(two, wrapTwo);
        }

        private static String wrap(Node node, boolean wrapped) {
            return wrapped ? "(" + node.text() + ")" : node.text();
        }
    }

    /** Reads a whole filter text by its grammar; null if it is none. */
    private static final class Parser {
        private final String text;
        private int at = 0;

        Parser(String text) {
            this.text = text;
        }

        static Node parse(String text) {
            Parser parser = new Parser(text);
            Node node = parser.disjunction();
            return parser.at == text.length() ? node : null;
        }

        private boolean eat(char c) {
            if (at < text.length() && text.charAt(at) == c) {
                at++;
                return true;
            }
            return false;
        }

        private Node disjunction() {
            Node node = conjunction();
            while (node != null && eat('|')) {
                Node next = conjunction();
                node = next == null ? null : new Pair('|', node, next);
            }
            return node;
        }

        private Node conjunction() {
            Node node = factor();
            while (node != null && eat('&')) {
                Node next = factor();
                node = next == null ? null : new Pair('&', node, next);
            }
            return node;
        }

        private Node factor() {
            if (eat('!')) {
                Node part = factor();
                return part == null ? null : new Not(part);
            }
            if (eat('(')) {
                Node part = disjunction();
                return part != null && eat(')') ? part : null;
            }
            return test();
        }

        private Node test() {
            Integer column = columnHere();
            if (column == null || at >= text.length()) {
                return null;
            }
            char sign = text.charAt(at++);
            if (sign == '?') {
                return new Test(column, sign, null, null);
            }
            if ("=<>".indexOf(sign) < 0) {
                return null;
            }
            Integer other = columnHere();
            if (other != null) {
                return new Test(column, sign, null, other);
            }
            int start = at;
            while (at < text.length() && Character.isDigit(text.charAt(at))) {
                at++;
            }
            String digits = text.substring(start, at);
            return digits.matches("[0-9]|[1-9][0-9]") ? new Test(column, sign, Integer.valueOf(digits), null) : null;
        }

        private Integer columnHere() {
            if (at < text.length() && "abcd".indexOf(text.charAt(at)) >= 0) {
                return text.charAt(at++) - 'a';
            }
            return null;
        }
    }

    private static final class State {
        final List<List<Integer[]>> tables = List.of(new ArrayList<>(), new ArrayList<>());
        final Node[] slots = new Node[6];
        final Node[] checks = new Node[2];
        int refusals;

        State copy() {
            State copy = new State();
            for (int t = 0; t < 2; t++) {
                for (Integer[] row : tables.get(t)) {
                    copy.tables.get(t).add(row.clone());
                }
                copy.checks[t] = checks[t];
            }
            System.arraycopy(slots, 0, copy.slots, 0, 6);
            copy.refusals = refusals;
            return copy;
        }
    }

    private State now = new State();
    private final Deque<State> saved = new ArrayDeque<>();
    private final State[] kept = new State[2];
    private String buffer = "";

    private void save() {
        saved.addLast(now.copy());
        if (saved.size() > 6) {
            saved.removeFirst();
        }
    }

    private static void index(boolean good) {
        if (!good) {
            throw new IndexOutOfBoundsException();
        }
    }

    private static void argument(boolean good) {
        if (!good) {
            throw new IllegalArgumentException();
        }
    }

    private static void state(boolean good) {
        if (!good) {
            throw new IllegalStateException();
        }
    }

    private static boolean in(int number, int count) {
        return number >= 0 && number < count;
    }

    private boolean isRow(int table, int row) {
        return in(table, 2) && in(row, now.tables.get(table).size());
    }

    private static Integer toCell(int value) {
        return value == -1 ? null : Integer.valueOf(value);
    }

    private static int fromCell(Integer cell) {
        return cell == null ? -1 : cell;
    }

    private boolean violates(int table, Integer[] row) {
        return now.checks[table] != null && now.checks[table].truth(row, row) == 0;
    }

    private int refuse() {
        now.refusals++;
        return NONE;
    }

    int add(int table, int a, int b, int c, int d) {
        index(in(table, 2));
        for (int cell : new int[] {a, b, c, d}) {
            argument(in(cell + 1, 101));
        }
        state(now.tables.get(table).size() < 16);
        save();
        Integer[] row = {toCell(a), toCell(b), toCell(c), toCell(d)};
        if (violates(table, row)) {
            return refuse();
        }
        now.tables.get(table).add(row);
        return now.tables.get(table).size() - 1;
    }

    int change(int table, int row, int column, int value) {
        index(isRow(table, row) && in(column, 4));
        argument(in(value + 1, 101));
        save();
        Integer[] changed = now.tables.get(table).get(row).clone();
        int previous = fromCell(changed[column]);
        changed[column] = toCell(value);
        if (violates(table, changed)) {
            return refuse();
        }
        now.tables.get(table).set(row, changed);
        return previous;
    }

    int drop(int table, int row) {
        index(isRow(table, row));
        save();
        now.tables.get(table).remove(row);
        return now.tables.get(table).size();
    }

    int define(int slot) {
        index(in(slot, 6));
        Node node = Parser.parse(buffer);
        argument(node != null);
        save();
        now.slots[slot] = node;
        buffer = "";
        return node.size();
    }

    int combine(int slot, int one, int other, int how) {
        index(in(slot, 6) && in(one, 6) && in(other, 6));
        argument(in(how, 3));
        Node first = now.slots[one];
        Node second = now.slots[other];
        state(first != null && (how == 0 || second != null));
        Node node = how == 0 ? new Not(first) : new Pair(how == 1 ? '&' : '|', first, second);
        state(node.size() <= 40);
        save();
        now.slots[slot] = node;
        return node.size();
    }

    int check(int table, int slot) {
        index(in(table, 2) && (slot == NONE || in(slot, 6)));
        state(slot == NONE || now.slots[slot] != null);
        save();
        Node node = slot == NONE ? null : now.slots[slot];
        int violations = 0;
        for (Integer[] row : now.tables.get(table)) {
            violations += node != null && node.truth(row, row) == 0 ? 1 : 0;
        }
        if (violations == 0) {
            now.checks[table] = node;
        } else {
            refuse();
        }
        return violations;
    }

    int remove(int table, int slot) {
        index(in(table, 2) && in(slot, 6));
        Node node = now.slots[slot];
        state(node != null);
        save();
        int before = now.tables.get(table).size();
        now.tables.get(table).removeIf(row -> node.truth(row, row) == 2);
        return before - now.tables.get(table).size();
    }

    int update(int table, int slot, int column, int value) {
        index(in(table, 2) && in(slot, 6) && in(column, 4));
        argument(in(value + 1, 101));
        Node node = now.slots[slot];
        state(node != null);
        save();
        List<Integer[]> rows = new ArrayList<>(now.tables.get(table));
        int changed = 0;
        for (int r = 0; r < rows.size(); r++) {
            if (node.truth(rows.get(r), rows.get(r)) == 2) {
                Integer[] row = rows.get(r).clone();
                row[column] = toCell(value);
                if (violates(table, row)) {
                    return refuse();
                }
                rows.set(r, row);
                changed++;
            }
        }
        now.tables.get(table).clear();
        now.tables.get(table).addAll(rows);
        return changed;
    }

    int append(int code) {
        argument(code >= 33 && code <= 126);
        state(buffer.length() < 60);
        buffer += (char) code;
        return buffer.length();
    }

    int clearBuffer() {
        int length = buffer.length();
        buffer = "";
        return length;
    }

    int firstError() {
        for (int length = 1; length <= buffer.length(); length++) {
            if (!canGoOn(buffer.substring(0, length))) {
                return length - 1;
            }
        }
        return buffer.length();
    }

    private static boolean canGoOn(String beginning) {
        long open = beginning.chars().filter(c -> c == '(').count() - beginning.chars().filter(c -> c == ')').count();
        if (open < 0) {
            return false;
        }
        for (String middle : new String[] {"", "?", "1", "a?"}) {
            if (Parser.parse(beginning + middle + ")".repeat((int) open)) != null) {
                return true;
            }
        }
        return false;
    }

    int undo() {
        state(!saved.isEmpty());
        now = saved.removeLast();
        return saved.size();
    }

    int keep(int slot) {
        argument(in(slot, 2));
        kept[slot] = now.copy();
        return count(0) + count(1);
    }

    int goBack(int slot) {
        argument(in(slot, 2));
        state(kept[slot] != null);
        save();
        now = kept[slot].copy();
        return count(0) + count(1);
    }

    int cell(int table, int row, int column) {
        index(isRow(table, row) && in(column, 4));
        return fromCell(now.tables.get(table).get(row)[column]);
    }

    int column(int table, int column, int what) {
        index(in(table, 2) && in(column, 4));
        argument(in(what, 7));
        int[] values = now.tables.get(table).stream().filter(row -> row[column] != null)
                .mapToInt(row -> row[column]).toArray();
        int all = now.tables.get(table).size();
        int sum = Arrays.stream(values).sum();
        return switch (what) {
            case 0 -> values.length;
            case 1 -> all - values.length;
            case 2 -> sum;
            case 3 -> Arrays.stream(values).min().orElse(NONE);
            case 4 -> Arrays.stream(values).max().orElse(NONE);
            case 5 -> (int) Arrays.stream(values).distinct().count();
            default -> values.length == 0 ? NONE : Math.floorDiv(sum, values.length);
        };
    }

    int group(int table, int column, int group, int what) {
        index(in(table, 2) && in(column, 4));
        argument(group >= 0 && in(what, 8));
        List<Integer[]> rows = now.tables.get(table);
        TreeMap<Integer, List<Integer>> groups = new TreeMap<>();
        for (int r = 0; r < rows.size(); r++) {
            groups.computeIfAbsent(fromCell(rows.get(r)[column]), key -> new ArrayList<>()).add(r);
        }
        if (group >= groups.size()) {
            return NONE;
        }
        int value = new ArrayList<>(groups.keySet()).get(group);
        int mask = 0;
        int unknown = 0;
        int[] sums = new int[4];
        for (int r : groups.get(value)) {
            mask |= 1 << r;
            for (int k = 0; k < 4; k++) {
                Integer cell = rows.get(r)[k];
                unknown += cell == null ? 1 : 0;
                sums[k] += cell == null ? 0 : cell;
            }
        }
        return switch (what) {
            case 0 -> value;
            case 1 -> mask;
            case 6 -> groups.get(value).size();
            case 7 -> unknown;
            default -> sums[what - 2];
        };
    }

    private int truthHere(int table, int row, Node node) {
        Integer[] cells = now.tables.get(table).get(row);
        return node.truth(cells, cells);
    }

    int truth(int table, int row, int slot) {
        index(isRow(table, row) && in(slot, 6));
        return now.slots[slot] == null ? NONE : truthHere(table, row, now.slots[slot]);
    }

    int rows(int table, int slot, int truth, int way) {
        index(in(table, 2) && in(slot, 6));
        argument(in(truth, 3) && in(way, 2));
        if (now.slots[slot] == null) {
            return NONE;
        }
        int mask = 0;
        for (int r = 0; r < now.tables.get(table).size(); r++) {
            mask |= truthHere(table, r, now.slots[slot]) == truth ? 1 << r : 0;
        }
        return mask;
    }

    private static TreeSet<Integer> columns(Node node) {
        List<Test> tests = new ArrayList<>();
        node.tests(tests);
        TreeSet<Integer> columns = new TreeSet<>();
        for (Test test : tests) {
            columns.add(test.column);
            if (test.other != null) {
                columns.add(test.other);
            }
        }
        return columns;
    }

    int filter(int slot, int what) {
        index(in(slot, 6));
        argument(in(what, 5));
        Node node = now.slots[slot];
        if (node == null) {
            return NONE;
        }
        List<Test> tests = new ArrayList<>();
        node.tests(tests);
        return switch (what) {
            case 0 -> node.size();
            case 1 -> node.depth();
            case 2 -> tests.size();
            case 3 -> columns(node).stream().mapToInt(column -> 1 << column).sum();
            default -> node.text().length();
        };
    }

    int letter(int slot, int index) {
        index(in(slot, 6));
        argument(index >= 0);
        Node node = now.slots[slot];
        return node == null || index >= node.text().length() ? NONE : node.text().charAt(index);
    }

    int compare(int table, int one, int other, int what) {
        index(in(table, 2) && in(one, 6) && in(other, 6));
        argument(in(what, 3));
        if (now.slots[one] == null || now.slots[other] == null) {
            return NONE;
        }
        int number = 0;
        for (int r = 0; r < now.tables.get(table).size(); r++) {
            int first = truthHere(table, r, now.slots[one]);
            int second = truthHere(table, r, now.slots[other]);
            boolean counts = what == 0 ? first == second : what == 1 ? first == 2 && second < 2 : first < second;
            number += counts ? 1 : 0;
        }
        return number;
    }

    int certain(int table, int row, int slot) {
        index(isRow(table, row) && in(slot, 6));
        Node node = now.slots[slot];
        if (node == null) {
            return NONE;
        }
        Integer[] cells = now.tables.get(table).get(row);
        List<Integer> open = new ArrayList<>();
        for (int column : columns(node)) {
            if (cells[column] == null) {
                open.add(column);
            }
        }
        if (open.size() > 2) {
            return NONE;
        }
        int trials = open.isEmpty() ? 1 : open.size() == 1 ? 100 : 10000;
        Integer[] trial = cells.clone();
        boolean[] seen = new boolean[3];
        for (int i = 0; i < trials && !(seen[0] && seen[2]); i++) {
            for (int k = 0, rest = i; k < open.size(); k++, rest /= 100) {
                trial[open.get(k)] = rest % 100;
            }
            seen[node.truth(trial, cells)] = true;
        }
        if (seen[1]) {
            throw new AssertionError("nothing is unknown on trial");
        }
        return seen[0] && seen[2] ? 1 : seen[2] ? 2 : 0;
    }

    int join(int left, int right, int what) {
        index(in(left, 4) && in(right, 4));
        argument(what >= 0);
        List<Integer> pairs = new ArrayList<>();
        int lonelyLeft = (1 << count(0)) - 1;
        int lonelyRight = (1 << count(1)) - 1;
        for (int r = 0; r < count(0); r++) {
            for (int s = 0; s < count(1); s++) {
                Integer one = now.tables.get(0).get(r)[left];
                if (one != null && one.equals(now.tables.get(1).get(s)[right])) {
                    pairs.add(100 * r + s);
                    lonelyLeft &= ~(1 << r);
                    lonelyRight &= ~(1 << s);
                }
            }
        }
        return switch (what) {
            case 0 -> pairs.size();
            case 1 -> lonelyLeft;
            case 2 -> lonelyRight;
            default -> what - 3 < pairs.size() ? pairs.get(what - 3) : NONE;
        };
    }

    int among(int row, int left, int right) {
        index(isRow(0, row) && in(left, 4) && in(right, 4));
        int truth = 0;
        for (Integer[] other : now.tables.get(1)) {
            Integer[] both = {now.tables.get(0).get(row)[left], other[right], null, null};
            truth = Math.max(truth, new Test(0, '=', null, 1).truth(both, both));
        }
        return truth;
    }

    int count(int what) {
        argument(in(what, 8));
        return switch (what) {
            case 0, 1 -> now.tables.get(what).size();
            case 2 -> (int) Arrays.stream(now.slots).filter(slot -> slot != null).count();
            case 3, 4 -> {
                Node check = now.checks[what - 3];
                yield check == null ? 0 : (int) now.tables.get(what - 3).stream()
                        .filter(row -> check.truth(row, row) == 1).count();
            }
            case 5 -> now.refusals;
            case 6 -> saved.size();
            default -> buffer.length();
        };
    }

    double share(int table, int slot) {
        index(in(table, 2) && in(slot, 6));
        int all = now.tables.get(table).size();
        if (all == 0 || now.slots[slot] == null) {
            return 0.0;
        }
        return (double) Integer.bitCount(rows(table, slot, 2, 0)) / (double) all;
    }
}
