/** Two tables whose cells can be unknown, and filters over them that are true, false or unknown for a row. */
public final class TruthFilters {
    public static final int UNKNOWN_CELL = -1;
    public static final int NONE = -2;

    private static final int FALSE = 0;
    private static final int UNKNOWN = 1;
    private static final int TRUE = 2;

    private static final int TABLES = 2;
    private static final int ROWS = 16;
    private static final int COLUMNS = 4;
    private static final int VALUES = 100;
    private static final int SLOTS = 6;
    private static final int SNAPSHOTS = 2;
    private static final int SAVED_STATES = 6;
    private static final int BUFFER_ROOM = 60;
    private static final int COMBINED_SIZE = 40;
    /** More than the 59 parts of the largest filter, and than the 60 signs of a buffer. */
    private static final int PILE_ROOM = 64;
    /** More than the 138 signs of 20 tests, 19 joints, 1 negation and 19 pairs of parentheses. */
    private static final int TEXT_ROOM = 160;

    private final State now = new State();
    private final State[] saved = new State[SAVED_STATES];
    private int savedCount = 0;
    private final State[] snapshots = new State[SNAPSHOTS];
    private final boolean[] taken = new boolean[SNAPSHOTS];
    private final char[] buffer = new char[BUFFER_ROOM];
    private int bufferLength = 0;
    /** The row that a filter is computed for: one of a table, or one that is on trial. */
    private final int[] loaded = new int[COLUMNS];
    private final Evaluator evaluator = new Evaluator();
    private final Candidates candidates = new Candidates();
    private final Reader reader = new Reader();
    private final ShortText shortText = new ShortText();

    public TruthFilters() {
        for (int i = 0; i < SAVED_STATES; i++) {
            saved[i] = new State();
        }
        for (int i = 0; i < SNAPSHOTS; i++) {
            snapshots[i] = new State();
        }
    }

    // ---- tables

    public int add(int table, int a, int b, int c, int d)
            throws IndexOutOfBoundsException, IllegalArgumentException, IllegalStateException {
        requireTable(table);
        requireCellValue(a);
        requireCellValue(b);
        requireCellValue(c);
        requireCellValue(d);
        int number = now.rowCounts[table];
        if (number >= ROWS) {
            throw new IllegalStateException("the table is full");
        }
        save();
        loaded[0] = a;
        loaded[1] = b;
        loaded[2] = c;
        loaded[3] = d;
        if (rowViolates(now.checks[table])) {
            return refuse();
        }
        for (int k = 0; k < COLUMNS; k++) {
            now.cells[place(table, number, k)] = loaded[k];
        }
        now.rowCounts[table] = number + 1;
        return number;
    }

    public int change(int table, int row, int column, int value)
            throws IndexOutOfBoundsException, IllegalArgumentException {
        requireRow(table, row);
        requireColumn(column);
        requireCellValue(value);
        save();
        if (wouldViolate(table, row, column, value)) {
            return refuse();
        }
        int place = place(table, row, column);
        int previous = now.cells[place];
        now.cells[place] = value;
        return previous;
    }

    public int drop(int table, int row) throws IndexOutOfBoundsException {
        requireRow(table, row);
        save();
        removeRows(table, 1 << row);
        return now.rowCounts[table];
    }

    // ---- filters

    public int define(int slot) throws IndexOutOfBoundsException, IllegalArgumentException {
        requireSlot(slot);
        if (reader.read(buffer, bufferLength) < bufferLength || !reader.finish()) {
            throw new IllegalArgumentException("the buffer is not a complete filter text");
        }
        save();
        Filter filter = new Filter(reader.steps());
        now.slots[slot] = filter;
        bufferLength = 0;
        return filter.size();
    }

    public int combine(int slot, int one, int other, int how)
            throws IndexOutOfBoundsException, IllegalArgumentException, IllegalStateException {
        requireSlot(slot);
        requireSlot(one);
        requireSlot(other);
        requireRange(how, 2);
        Filter first = filledSlot(one);
        Filter combined = how == 0 ? negationOf(first) : joinOf(first, filledSlot(other), how == 1 ? '&' : '|');
        save();
        now.slots[slot] = combined;
        return combined.size();
    }

    public int check(int table, int slot) throws IndexOutOfBoundsException, IllegalStateException {
        requireTable(table);
        Filter filter = null;
        if (slot != NONE) {
            requireSlot(slot);
            filter = filledSlot(slot);
        }
        save();
        int violations = filter == null ? 0 : countRows(table, filter, FALSE);
        if (violations > 0) {
            now.refusals++;
        } else {
            now.checks[table] = filter;
        }
        return violations;
    }

    public int remove(int table, int slot) throws IndexOutOfBoundsException, IllegalStateException {
        requireTable(table);
        requireSlot(slot);
        Filter filter = filledSlot(slot);
        save();
        int gone = rowsWith(table, filter, TRUE);
        removeRows(table, gone);
        return Integer.bitCount(gone);
    }

    public int update(int table, int slot, int column, int value)
            throws IndexOutOfBoundsException, IllegalArgumentException, IllegalStateException {
        requireTable(table);
        requireSlot(slot);
        requireColumn(column);
        requireCellValue(value);
        Filter filter = filledSlot(slot);
        save();
        int changed = rowsWith(table, filter, TRUE);
        for (int r = 0; r < now.rowCounts[table]; r++) {
            if (hasBit(changed, r) && wouldViolate(table, r, column, value)) {
                return refuse();
            }
        }
        for (int r = 0; r < now.rowCounts[table]; r++) {
            if (hasBit(changed, r)) {
                now.cells[place(table, r, column)] = value;
            }
        }
        return Integer.bitCount(changed);
    }

    // ---- filter text

    public int append(int code) throws IllegalArgumentException, IllegalStateException {
        if (code < 33 || code > 126) {
            throw new IllegalArgumentException("no such character");
        }
        if (bufferLength >= BUFFER_ROOM) {
            throw new IllegalStateException("the buffer is full");
        }
        buffer[bufferLength] = (char) code;
        bufferLength++;
        return bufferLength;
    }

    public int clearBuffer() {
        int length = bufferLength;
        bufferLength = 0;
        return length;
    }

    public int firstError() {
        return reader.read(buffer, bufferLength);
    }

    // ---- undo and snapshots

    public int undo() throws IllegalStateException {
        if (savedCount <= 0) {
            throw new IllegalStateException("no state is saved");
        }
        savedCount--;
        copyState(saved[savedCount], now);
        return savedCount;
    }

    public int keep(int slot) throws IllegalArgumentException {
        requireRange(slot, SNAPSHOTS - 1);
        copyState(now, snapshots[slot]);
        taken[slot] = true;
        return allRows();
    }

    public int goBack(int slot) throws IllegalArgumentException, IllegalStateException {
        requireRange(slot, SNAPSHOTS - 1);
        if (!taken[slot]) {
            throw new IllegalStateException("no snapshot is in the slot");
        }
        save();
        copyState(snapshots[slot], now);
        return allRows();
    }

    // ---- queries about tables; nothing changes

    public int cell(int table, int row, int column) throws IndexOutOfBoundsException {
        requireRow(table, row);
        requireColumn(column);
        return now.cells[place(table, row, column)];
    }

    public int column(int table, int column, int what) throws IndexOutOfBoundsException, IllegalArgumentException {
        requireTable(table);
        requireColumn(column);
        requireRange(what, 6);
        int rowCount = now.rowCounts[table];
        int known = 0;
        int sum = 0;
        int least = NONE;
        int greatest = NONE;
        for (int r = 0; r < rowCount; r++) {
            int value = now.cells[place(table, r, column)];
            if (value != UNKNOWN_CELL) {
                least = known == 0 ? value : Math.min(least, value);
                greatest = Math.max(greatest, value);
                known++;
                sum += value;
            }
        }
        switch (what) {
            case 0: return known;
            case 1: return rowCount - known;
            case 2: return sum;
            case 3: return least;
            case 4: return greatest;
            case 5: return differentValues(table, column);
            default: return known == 0 ? NONE : sum / known;
        }
    }

    public int group(int table, int column, int group, int what)
            throws IndexOutOfBoundsException, IllegalArgumentException {
        requireTable(table);
        requireColumn(column);
        if (group < 0) {
            throw new IllegalArgumentException("a group has no negative number");
        }
        requireRange(what, 7);
        int number = 0;
        // UNKNOWN_CELL is below all values, so its group comes first by itself.
        for (int value = UNKNOWN_CELL; value < VALUES; value++) {
            int members = rowsWithCell(table, column, value);
            if (members != 0) {
                if (number == group) {
                    return groupNumber(table, members, value, what);
                }
                number++;
            }
        }
        return NONE;
    }

    // ---- queries about filters; nothing changes

    public int truth(int table, int row, int slot) throws IndexOutOfBoundsException {
        requireRow(table, row);
        requireSlot(slot);
        Filter filter = now.slots[slot];
        return filter == null ? NONE : truthFor(table, row, filter);
    }

    public int rows(int table, int slot, int truth, int way)
            throws IndexOutOfBoundsException, IllegalArgumentException {
        requireTable(table);
        requireSlot(slot);
        requireRange(truth, 2);
        requireRange(way, 1);
        Filter filter = now.slots[slot];
        if (filter == null) {
            return NONE;
        }
        return way == 0 ? rowsWith(table, filter, truth) : rowsByBitSets(table, filter, truth);
    }

    public int filter(int slot, int what) throws IndexOutOfBoundsException, IllegalArgumentException {
        requireSlot(slot);
        requireRange(what, 4);
        Filter filter = now.slots[slot];
        if (filter == null) {
            return NONE;
        }
        switch (what) {
            case 0: return filter.size();
            case 1: return evaluator.depthOf(filter);
            case 2: return filter.testCount();
            case 3: return filter.columnSet();
            default:
                shortText.write(filter);
                return shortText.length();
        }
    }

    public int letter(int slot, int index) throws IndexOutOfBoundsException, IllegalArgumentException {
        requireSlot(slot);
        if (index < 0) {
            throw new IllegalArgumentException("an index is not negative");
        }
        Filter filter = now.slots[slot];
        if (filter == null) {
            return NONE;
        }
        shortText.write(filter);
        return shortText.codeAt(index);
    }

    public int compare(int table, int one, int other, int what)
            throws IndexOutOfBoundsException, IllegalArgumentException {
        requireTable(table);
        requireSlot(one);
        requireSlot(other);
        requireRange(what, 2);
        Filter first = now.slots[one];
        Filter second = now.slots[other];
        if (first == null || second == null) {
            return NONE;
        }
        int number = 0;
        for (int r = 0; r < now.rowCounts[table]; r++) {
            if (related(truthFor(table, r, first), truthFor(table, r, second), what)) {
                number++;
            }
        }
        return number;
    }

    public int certain(int table, int row, int slot) throws IndexOutOfBoundsException {
        requireRow(table, row);
        requireSlot(slot);
        Filter filter = now.slots[slot];
        if (filter == null) {
            return NONE;
        }
        loadRow(table, row);
        int unknowns = unknownsOf(loaded);
        int open = unknowns & filter.columnSet();
        if (Integer.bitCount(open) > 2) {
            return NONE;
        }
        candidates.list(filter, loaded);
        return certainty(filter, unknowns, open);
    }

    // ---- queries about both tables; nothing changes

    public int join(int left, int right, int what) throws IndexOutOfBoundsException, IllegalArgumentException {
        requireColumn(left);
        requireColumn(right);
        if (what < 0) {
            throw new IllegalArgumentException("there is no negative number of a join");
        }
        switch (what) {
            case 0: return pairCount(left, right);
            case 1: return rowsWithoutPartner(0, left, 1, right);
            case 2: return rowsWithoutPartner(1, right, 0, left);
            default: return pairAt(left, right, what - 3);
        }
    }

    public int among(int row, int left, int right) throws IndexOutOfBoundsException {
        requireRow(0, row);
        requireColumn(left);
        requireColumn(right);
        int value = now.cells[place(0, row, left)];
        int truth = FALSE;
        for (int r = 0; r < now.rowCounts[1]; r++) {
            int other = now.cells[place(1, r, right)];
            if (value == UNKNOWN_CELL || other == UNKNOWN_CELL) {
                truth = Math.max(truth, UNKNOWN);
            } else if (value == other) {
                truth = TRUE;
            }
        }
        return truth;
    }

    public int count(int what) throws IllegalArgumentException {
        requireRange(what, 7);
        switch (what) {
            case 0:
            case 1: return now.rowCounts[what];
            case 2: return filledSlots();
            case 3:
            case 4: return countRows(what - 3, now.checks[what - 3], UNKNOWN);
            case 5: return now.refusals;
            case 6: return savedCount;
            default: return bufferLength;
        }
    }

    public double share(int table, int slot) throws IndexOutOfBoundsException {
        requireTable(table);
        requireSlot(slot);
        int rowCount = now.rowCounts[table];
        if (rowCount == 0) {
            return 0.0;
        }
        return (double) countRows(table, now.slots[slot], TRUE) / (double) rowCount;
    }

    // ---- what a call may be given

    private static void requireTable(int table) {
        if (table < 0 || table >= TABLES) {
            throw new IndexOutOfBoundsException("no such table");
        }
    }

    private void requireRow(int table, int row) {
        requireTable(table);
        if (row < 0 || row >= now.rowCounts[table]) {
            throw new IndexOutOfBoundsException("no such row");
        }
    }

    private static void requireColumn(int column) {
        if (column < 0 || column >= COLUMNS) {
            throw new IndexOutOfBoundsException("no such column");
        }
    }

    private static void requireSlot(int slot) {
        if (slot < 0 || slot >= SLOTS) {
            throw new IndexOutOfBoundsException("no such slot");
        }
    }

    private static void requireCellValue(int value) {
        if (value != UNKNOWN_CELL && (value < 0 || value >= VALUES)) {
            throw new IllegalArgumentException("a cell is unknown or 0 to 99");
        }
    }

    private static void requireRange(int number, int last) {
        if (number < 0 || number > last) {
            throw new IllegalArgumentException("a number is out of range");
        }
    }

    private Filter filledSlot(int slot) {
        Filter filter = now.slots[slot];
        if (filter == null) {
            throw new IllegalStateException("the slot is empty");
        }
        return filter;
    }

    // ---- the state

    private void save() {
        if (savedCount >= SAVED_STATES) {
            State oldest = saved[0];
            for (int i = 1; i < SAVED_STATES; i++) {
                saved[i - 1] = saved[i];
            }
            saved[SAVED_STATES - 1] = oldest;
            savedCount = SAVED_STATES - 1;
        }
        copyState(now, saved[savedCount]);
        savedCount++;
    }

    private static void copyState(State from, State to) {
        if (from != null && to != null) {
            to.takeOver(from);
        }
    }

    private int refuse() {
        now.refusals++;
        return NONE;
    }

    private int allRows() {
        return now.rowCounts[0] + now.rowCounts[1];
    }

    private int filledSlots() {
        int filled = 0;
        for (int i = 0; i < SLOTS; i++) {
            if (now.slots[i] != null) {
                filled++;
            }
        }
        return filled;
    }

    // ---- rows and cells

    private static int place(int table, int row, int column) {
        return (table * ROWS + row) * COLUMNS + column;
    }

    private static boolean hasBit(int set, int bit) {
        return (set >> bit & 1) == 1;
    }

    private static int unknownsOf(int[] cells) {
        int unknowns = 0;
        for (int k = 0; k < cells.length; k++) {
            if (cells[k] == UNKNOWN_CELL) {
                unknowns |= 1 << k;
            }
        }
        return unknowns;
    }

    private void loadRow(int table, int number) {
        for (int k = 0; k < COLUMNS; k++) {
            loaded[k] = now.cells[place(table, number, k)];
        }
    }

    private void removeRows(int table, int gone) {
        int left = 0;
        for (int r = 0; r < now.rowCounts[table]; r++) {
            if (!hasBit(gone, r)) {
                for (int k = 0; k < COLUMNS; k++) {
                    now.cells[place(table, left, k)] = now.cells[place(table, r, k)];
                }
                left++;
            }
        }
        now.rowCounts[table] = left;
    }

    private int rowsWithCell(int table, int column, int value) {
        int found = 0;
        for (int r = 0; r < now.rowCounts[table]; r++) {
            if (now.cells[place(table, r, column)] == value) {
                found |= 1 << r;
            }
        }
        return found;
    }

    private int differentValues(int table, int column) {
        int different = 0;
        for (int value = 0; value < VALUES; value++) {
            if (rowsWithCell(table, column, value) != 0) {
                different++;
            }
        }
        return different;
    }

    private int groupNumber(int table, int members, int value, int what) {
        switch (what) {
            case 0: return value;
            case 1: return members;
            case 6: return Integer.bitCount(members);
            case 7: return unknownCells(table, members);
            default: return sumOf(table, members, what - 2);
        }
    }

    private int sumOf(int table, int members, int column) {
        int sum = 0;
        for (int r = 0; r < now.rowCounts[table]; r++) {
            int value = now.cells[place(table, r, column)];
            if (hasBit(members, r) && value != UNKNOWN_CELL) {
                sum += value;
            }
        }
        return sum;
    }

    private int unknownCells(int table, int members) {
        int number = 0;
        for (int k = 0; k < COLUMNS; k++) {
            number += Integer.bitCount(members & rowsWithCell(table, k, UNKNOWN_CELL));
        }
        return number;
    }

    // ---- the join

    private int partnersOf(int table, int number, int column, int otherTable, int otherColumn) {
        int value = now.cells[place(table, number, column)];
        return value == UNKNOWN_CELL ? 0 : rowsWithCell(otherTable, otherColumn, value);
    }

    private int pairCount(int left, int right) {
        int pairs = 0;
        for (int r = 0; r < now.rowCounts[0]; r++) {
            pairs += Integer.bitCount(partnersOf(0, r, left, 1, right));
        }
        return pairs;
    }

    private int rowsWithoutPartner(int table, int column, int otherTable, int otherColumn) {
        int lonely = 0;
        for (int r = 0; r < now.rowCounts[table]; r++) {
            if (partnersOf(table, r, column, otherTable, otherColumn) == 0) {
                lonely |= 1 << r;
            }
        }
        return lonely;
    }

    private int pairAt(int left, int right, int index) {
        int pairs = 0;
        for (int r = 0; r < now.rowCounts[0]; r++) {
            int partners = partnersOf(0, r, left, 1, right);
            for (int s = 0; s < now.rowCounts[1]; s++) {
                if (hasBit(partners, s)) {
                    if (pairs == index) {
                        return 100 * r + s;
                    }
                    pairs++;
                }
            }
        }
        return NONE;
    }

    // ---- filters for rows

    private int truthFor(int table, int number, Filter filter) {
        loadRow(table, number);
        return evaluator.truthOf(filter, loaded, unknownsOf(loaded));
    }

    private int rowsWith(int table, Filter filter, int truth) {
        int found = 0;
        for (int r = 0; r < now.rowCounts[table]; r++) {
            if (truthFor(table, r, filter) == truth) {
                found |= 1 << r;
            }
        }
        return found;
    }

    /** Without a filter there are no such rows. */
    private int countRows(int table, Filter filter, int truth) {
        return filter == null ? 0 : Integer.bitCount(rowsWith(table, filter, truth));
    }

    private int rowsByBitSets(int table, Filter filter, int truth) {
        int rowCount = now.rowCounts[table];
        evaluator.start();
        for (int i = 0; i < filter.size(); i++) {
            int step = filter.step(i);
            if (Step.isTest(step)) {
                pushTestSets(table, step);
            } else {
                evaluator.joinSets(Step.signOf(step));
            }
        }
        int trues = evaluator.trueSet();
        int falses = evaluator.falseSet();
        switch (truth) {
            case TRUE: return trues;
            case FALSE: return falses;
            default: return (1 << rowCount) - 1 & ~(trues | falses);
        }
    }

    private void pushTestSets(int table, int step) {
        int trues = 0;
        int falses = 0;
        for (int r = 0; r < now.rowCounts[table]; r++) {
            loadRow(table, r);
            int truth = Step.truthOf(step, loaded, unknownsOf(loaded));
            if (truth == TRUE) {
                trues |= 1 << r;
            } else if (truth == FALSE) {
                falses |= 1 << r;
            }
        }
        evaluator.pushSets(trues, falses);
    }

    private boolean rowViolates(Filter check) {
        return check != null && evaluator.truthOf(check, loaded, unknownsOf(loaded)) == FALSE;
    }

    private boolean wouldViolate(int table, int number, int column, int value) {
        loadRow(table, number);
        loaded[column] = value;
        return rowViolates(now.checks[table]);
    }

    private static boolean related(int one, int other, int what) {
        switch (what) {
            case 0: return one == other;
            case 1: return one == TRUE && other != TRUE;
            default: return one < other;
        }
    }

    /** Tries all candidates in the open columns, of which there are at most two. */
    private int certainty(Filter filter, int unknowns, int open) {
        int first = lowestBit(open);
        int second = lowestBit(open & open - 1);
        int firstTries = first < COLUMNS ? candidates.size() : 1;
        int secondTries = second < COLUMNS ? candidates.size() : 1;
        boolean everTrue = false;
        boolean everFalse = false;
        for (int i = 0; i < firstTries && !(everTrue && everFalse); i++) {
            if (first < COLUMNS) {
                loaded[first] = candidates.valueAt(i);
            }
            for (int j = 0; j < secondTries && !(everTrue && everFalse); j++) {
                if (second < COLUMNS) {
                    loaded[second] = candidates.valueAt(j);
                }
                if (evaluator.truthOf(filter, loaded, unknowns) == TRUE) {
                    everTrue = true;
                } else {
                    everFalse = true;
                }
            }
        }
        if (everTrue && everFalse) {
            return UNKNOWN;
        }
        return everTrue ? TRUE : FALSE;
    }

    /** The number of the lowest of the bits for columns; COLUMNS if none is set. */
    private static int lowestBit(int set) {
        int bit = 0;
        while (bit < COLUMNS && !hasBit(set, bit)) {
            bit++;
        }
        return bit;
    }

    // ---- combined filters

    private static Filter negationOf(Filter part) {
        int size = part.size() + 1;
        requireCombinedSize(size);
        int[] steps = new int[size];
        part.copySteps(steps, 0);
        steps[size - 1] = Step.joint('!');
        return new Filter(steps);
    }

    private static Filter joinOf(Filter one, Filter other, char sign) {
        int size = one.size() + other.size() + 1;
        requireCombinedSize(size);
        int[] steps = new int[size];
        one.copySteps(steps, 0);
        other.copySteps(steps, one.size());
        steps[size - 1] = Step.joint(sign);
        return new Filter(steps);
    }

    private static void requireCombinedSize(int size) {
        if (size > COMBINED_SIZE) {
            throw new IllegalStateException("the new filter is too large");
        }
    }

    /** All that undo and the snapshots bring back. */
    private static final class State {
        final int[] cells = new int[TABLES * ROWS * COLUMNS];
        final int[] rowCounts = new int[TABLES];
        final Filter[] slots = new Filter[SLOTS];
        final Filter[] checks = new Filter[TABLES];
        int refusals = 0;

        void takeOver(State other) {
            System.arraycopy(other.cells, 0, cells, 0, cells.length);
            for (int i = 0; i < TABLES; i++) {
                rowCounts[i] = other.rowCounts[i];
                checks[i] = other.checks[i];
            }
            for (int i = 0; i < SLOTS; i++) {
                slots[i] = other.slots[i];
            }
            refusals = other.refusals;
        }
    }

    /**
     * The coding of one part of a filter as a number: its sign, and for a test its column, whether it compares with
     * a column, and the column or value that it compares with.
     */
    private static final class Step {
        static int joint(char sign) {
            return sign;
        }

        static int test(char sign, int column, boolean withColumn, int operand) {
            return sign | column << 7 | (withColumn ? 1 : 0) << 9 | operand << 10;
        }

        static char signOf(int step) {
            return (char) (step & 127);
        }

        static int columnOf(int step) {
            return step >> 7 & 3;
        }

        static boolean comparesColumns(int step) {
            return (step >> 9 & 1) == 1;
        }

        static int otherColumnOf(int step) {
            return step >> 10 & 3;
        }

        static int valueOf(int step) {
            return step >> 10;
        }

        static boolean isTest(int step) {
            char sign = signOf(step);
            return sign != '!' && sign != '&' && sign != '|';
        }

        static boolean comparesWithValue(int step) {
            return isTest(step) && signOf(step) != '?' && !comparesColumns(step);
        }

        /** The inquiries look at the set of unknown cells, not at the row, which may have other values on trial. */
        static int truthOf(int step, int[] row, int unknowns) {
            char sign = signOf(step);
            int column = columnOf(step);
            if (sign == '?') {
                return hasBit(unknowns, column) ? TRUE : FALSE;
            }
            int left = cellOf(row, column);
            int right = comparesColumns(step) ? cellOf(row, otherColumnOf(step)) : valueOf(step);
            if (left == UNKNOWN_CELL || right == UNKNOWN_CELL) {
                return UNKNOWN;
            }
            boolean holds = sign == '=' ? left == right : sign == '<' ? left < right : left > right;
            return holds ? TRUE : FALSE;
        }

        private static int cellOf(int[] row, int column) {
            return column < row.length ? row[column] : UNKNOWN_CELL;
        }
    }

    /** A filter, which never changes: its parts in an order in which each comes behind those that it joins. */
    private static final class Filter {
        private final int[] steps;

        Filter(int[] steps) {
            this.steps = steps;
        }

        int size() {
            return steps.length;
        }

        int step(int index) {
            return index >= 0 && index < steps.length ? steps[index] : 0;
        }

        int testCount() {
            int tests = 0;
            for (int i = 0; i < steps.length; i++) {
                if (Step.isTest(steps[i])) {
                    tests++;
                }
            }
            return tests;
        }

        int columnSet() {
            int columns = 0;
            for (int i = 0; i < steps.length; i++) {
                if (Step.isTest(steps[i])) {
                    columns |= 1 << Step.columnOf(steps[i]);
                    if (Step.comparesColumns(steps[i])) {
                        columns |= 1 << Step.otherColumnOf(steps[i]);
                    }
                }
            }
            return columns;
        }

        void copySteps(int[] target, int start) {
            if (start >= 0 && start + steps.length <= target.length) {
                System.arraycopy(steps, 0, target, start, steps.length);
            }
        }
    }

    /** A pile of numbers. A full one takes no more, and an empty one gives 0. */
    private static final class Pile {
        private final int[] items = new int[PILE_ROOM];
        private int height = 0;

        void clear() {
            height = 0;
        }

        int height() {
            return height;
        }

        void push(int item) {
            if (height < items.length) {
                items[height] = item;
                height++;
            }
        }

        int pop() {
            if (height <= 0) {
                return 0;
            }
            height--;
            return items[height];
        }

        int top() {
            return height <= 0 ? 0 : items[height - 1];
        }

        int[] toArray() {
            int[] copy = new int[height];
            System.arraycopy(items, 0, copy, 0, height);
            return copy;
        }
    }

    /** Computes filters part by part: for one row, for all rows at once by two bit sets, and their depth. */
    private static final class Evaluator {
        private final Pile first = new Pile();
        private final Pile second = new Pile();

        int truthOf(Filter filter, int[] row, int unknowns) {
            start();
            for (int i = 0; i < filter.size(); i++) {
                int step = filter.step(i);
                switch (Step.signOf(step)) {
                    case '!': first.push(2 - first.pop()); break;
                    case '&': first.push(Math.min(first.pop(), first.pop())); break;
                    case '|': first.push(Math.max(first.pop(), first.pop())); break;
                    default: first.push(Step.truthOf(step, row, unknowns));
                }
            }
            return first.top();
        }

        int depthOf(Filter filter) {
            start();
            for (int i = 0; i < filter.size(); i++) {
                switch (Step.signOf(filter.step(i))) {
                    case '!': first.push(first.pop() + 1); break;
                    case '&':
                    case '|': first.push(Math.max(first.pop(), first.pop()) + 1); break;
                    default: first.push(1);
                }
            }
            return first.top();
        }

        void start() {
            first.clear();
            second.clear();
        }

        void pushSets(int trues, int falses) {
            first.push(trues);
            second.push(falses);
        }

        void joinSets(char sign) {
            int trues = first.pop();
            int falses = second.pop();
            switch (sign) {
                case '!': pushSets(falses, trues); break;
                case '&': pushSets(first.pop() & trues, second.pop() | falses); break;
                default: pushSets(first.pop() | trues, second.pop() & falses);
            }
        }

        int trueSet() {
            return first.top();
        }

        int falseSet() {
            return second.top();
        }
    }

    /**
     * Values that stand for all values of one or two unknown cells. A filter can only tell values apart by the
     * numbers that it compares with and by which of the two cells is greater; so it is enough to try these numbers
     * and the two least values behind each of them, and behind nothing.
     */
    private static final class Candidates {
        private final boolean[] marked = new boolean[VALUES];
        private final int[] values = new int[VALUES];
        private int size = 0;

        void list(Filter filter, int[] row) {
            for (int v = 0; v < VALUES; v++) {
                marked[v] = false;
            }
            mark(0);
            for (int i = 0; i < filter.size(); i++) {
                if (Step.comparesWithValue(filter.step(i))) {
                    mark(Step.valueOf(filter.step(i)));
                }
            }
            for (int k = 0; k < row.length; k++) {
                if (row[k] != UNKNOWN_CELL) {
                    mark(row[k]);
                }
            }
            size = 0;
            for (int v = 0; v < VALUES; v++) {
                if (marked[v]) {
                    values[size] = v;
                    size++;
                }
            }
        }

        private void mark(int value) {
            for (int v = Math.max(value, 0); v < VALUES && v <= value + 2; v++) {
                marked[v] = true;
            }
        }

        int size() {
            return size;
        }

        int valueAt(int index) {
            return index >= 0 && index < size ? values[index] : 0;
        }
    }

    /** Reads filter texts sign by sign, and puts the parts of the filter in order. */
    private static final class Reader {
        private static final int FACTOR = 0;
        private static final int SIGN = 1;
        private static final int OPERAND = 2;
        private static final int SECOND_DIGIT = 3;
        private static final int JOINT = 4;

        private final Pile steps = new Pile();
        private final Pile waiting = new Pile();
        private int expected = FACTOR;
        private int open = 0;
        private int column = 0;
        private char sign = '=';
        private int value = 0;

        /** Answers how many characters could be read before the first error. */
        int read(char[] text, int length) {
            steps.clear();
            waiting.clear();
            expected = FACTOR;
            open = 0;
            for (int i = 0; i < length && i < text.length; i++) {
                if (!takes(text[i])) {
                    return i;
                }
            }
            return length;
        }

        /** Ends a text that was read without an error; answers whether it is complete. */
        boolean finish() {
            endValue();
            if (expected != JOINT || open > 0) {
                return false;
            }
            release(1);
            return true;
        }

        int[] steps() {
            return steps.toArray();
        }

        private boolean takes(char c) {
            switch (expected) {
                case FACTOR: return takesFactor(c);
                case SIGN: return takesSign(c);
                case OPERAND: return takesOperand(c);
                case SECOND_DIGIT: return takesSecondDigit(c);
                default: return takesJoint(c);
            }
        }

        private boolean takesFactor(char c) {
            if (c == '!' || c == '(') {
                waiting.push(c);
                open += c == '(' ? 1 : 0;
                return true;
            }
            if (!isColumn(c)) {
                return false;
            }
            column = c - 'a';
            expected = SIGN;
            return true;
        }

        private boolean takesSign(char c) {
            if (c == '?') {
                endTest(c, false, 0);
                return true;
            }
            if (c != '=' && c != '<' && c != '>') {
                return false;
            }
            sign = c;
            expected = OPERAND;
            return true;
        }

        private boolean takesOperand(char c) {
            if (isColumn(c)) {
                endTest(sign, true, c - 'a');
                return true;
            }
            if (!isDigit(c)) {
                return false;
            }
            value = c - '0';
            expected = SECOND_DIGIT;
            if (value == 0) {
                endValue();
            }
            return true;
        }

        private boolean takesSecondDigit(char c) {
            if (isDigit(c)) {
                value = value * 10 + (c - '0');
                endValue();
                return true;
            }
            endValue();
            return takesJoint(c);
        }

        private boolean takesJoint(char c) {
            if (c == ')' && open > 0) {
                release(1);
                waiting.pop();
                open--;
                return true;
            }
            if (c != '&' && c != '|') {
                return false;
            }
            release(strength(c));
            waiting.push(c);
            expected = FACTOR;
            return true;
        }

        private void endValue() {
            if (expected == SECOND_DIGIT) {
                endTest(sign, false, value);
            }
        }

        private void endTest(char testSign, boolean withColumn, int operand) {
            steps.push(Step.test(testSign, column, withColumn, operand));
            expected = JOINT;
        }

        /** Lets go of the waiting signs that bind at least so strongly, up to an open parenthesis. */
        private void release(int least) {
            for (int i = waiting.height(); i > 0 && strength((char) waiting.top()) >= least; i--) {
                steps.push(Step.joint((char) waiting.pop()));
            }
        }

        private static int strength(char c) {
            switch (c) {
                case '!': return 3;
                case '&': return 2;
                case '|': return 1;
                default: return 0;
            }
        }

        private static boolean isColumn(char c) {
            return c >= 'a' && c <= 'd';
        }

        private static boolean isDigit(char c) {
            return c >= '0' && c <= '9';
        }
    }

    /** Writes short texts. The parts that are not joined yet stand one behind the other in the text. */
    private static final class ShortText {
        private final char[] letters = new char[TEXT_ROOM];
        private final Pile starts = new Pile();
        private final Pile signs = new Pile();
        private int length = 0;

        void write(Filter filter) {
            length = 0;
            starts.clear();
            signs.clear();
            for (int i = 0; i < filter.size(); i++) {
                int step = filter.step(i);
                char sign = Step.signOf(step);
                if (sign == '!') {
                    negateLast();
                } else if (sign == '&' || sign == '|') {
                    joinLastTwo(sign);
                } else {
                    writeTest(step);
                }
            }
        }

        int length() {
            return length;
        }

        int codeAt(int index) {
            return index >= 0 && index < length ? letters[index] : NONE;
        }

        private void writeTest(int step) {
            starts.push(length);
            signs.push(Step.signOf(step));
            insert(length, (char) ('a' + Step.columnOf(step)));
            insert(length, Step.signOf(step));
            if (Step.comparesColumns(step)) {
                insert(length, (char) ('a' + Step.otherColumnOf(step)));
            } else if (Step.comparesWithValue(step)) {
                writeValue(Step.valueOf(step));
            }
        }

        private void writeValue(int value) {
            if (value >= 10) {
                insert(length, (char) ('0' + value / 10));
            }
            insert(length, (char) ('0' + value % 10));
        }

        private void negateLast() {
            int part = signs.pop();
            if (part == '&' || part == '|') {
                wrap(starts.top(), length);
            }
            insert(starts.top(), '!');
            signs.push('!');
        }

        private void joinLastTwo(char sign) {
            int secondStart = starts.pop();
            int second = signs.pop();
            int first = signs.pop();
            if (second == sign || sign == '&' && second == '|') {
                wrap(secondStart, length);
            }
            insert(secondStart, sign);
            if (sign == '&' && first == '|') {
                wrap(starts.top(), secondStart);
            }
            signs.push(sign);
        }

        private void wrap(int start, int end) {
            insert(end, ')');
            insert(start, '(');
        }

        private void insert(int index, char letter) {
            if (index < 0 || index > length || length >= letters.length) {
                return;
            }
            for (int i = length; i > index; i--) {
                letters[i] = letters[i - 1];
            }
            letters[index] = letter;
            length++;
        }
    }
}
