/**
 * A shared workbook of four sheets in which each reading of a cell of another sheet is metered,
 * paid from the budget of the sheet that reads, and traced to the user who caused it.
 */
public final class MeteredSheets {
    private static final int USERS = 5;
    private static final int SHEETS = 4;
    private static final int CELLS_OF_A_SHEET = 6;
    private static final int CELLS = 24;

    private static final int MOST_VALUE = 1000000;
    private static final int MOST_MORE = 1000;
    private static final int MOST_FACTOR = 100;
    private static final int MOST_PRICE = 100;
    private static final int MOST_MONEY = 10000;

    private static final int NO_CELL = -1;

    private static final int NUMBER = 0;
    private static final int SUM = 1;
    private static final int GREATER = 2;
    private static final int TIMES = 3;

    // The formula of each cell: its kind, the cells that it names, and its number.
    private final int[] kinds = new int[CELLS];
    private final int[] ones = new int[CELLS];
    private final int[] others = new int[CELLS];
    private final int[] numbers = new int[CELLS];

    private final int[] values = new int[CELLS];
    private final boolean[] marked = new boolean[CELLS];
    private final int[] order = new int[CELLS];
    private final Ledger ledger = new Ledger();

    // Rows that a call fills anew before it looks at them, kept so that no call makes any.
    private final boolean[] changed = new boolean[CELLS];
    private final boolean[] placed = new boolean[CELLS];
    private final boolean[] reaching = new boolean[CELLS];
    private final int[] fresh = new int[CELLS];

    public MeteredSheets() {
        for (int cell = 0; cell < CELLS; cell++) {
            ones[cell] = NO_CELL;
            others[cell] = NO_CELL;
            order[cell] = cell;
        }
    }

    // ---- formulas

    public int setNumber(int user, int cell, int value) throws IllegalArgumentException {
        if (!isUser(user) || !isCell(cell) || !isWithin(value, MOST_VALUE)) {
            throw new IllegalArgumentException("user, cell or value is out of range");
        }
        return giveFormula(user, cell, NUMBER, NO_CELL, NO_CELL, value);
    }

    public int setSum(int user, int cell, int one, int other, int more)
            throws IllegalArgumentException, IllegalStateException {
        if (!isUser(user) || !isCell(cell) || !isCell(one) || !isCell(other) || !isWithin(more, MOST_MORE)) {
            throw new IllegalArgumentException("user, cell, one, other or more is out of range");
        }
        if (wouldReadItself(cell, one, other)) {
            throw new IllegalStateException("the cell would read itself");
        }
        return giveFormula(user, cell, SUM, one, other, more);
    }

    public int setGreater(int user, int cell, int one, int other)
            throws IllegalArgumentException, IllegalStateException {
        if (!isUser(user) || !isCell(cell) || !isCell(one) || !isCell(other)) {
            throw new IllegalArgumentException("user, cell, one or other is out of range");
        }
        if (wouldReadItself(cell, one, other)) {
            throw new IllegalStateException("the cell would read itself");
        }
        return giveFormula(user, cell, GREATER, one, other, 0);
    }

    public int setTimes(int user, int cell, int one, int factor)
            throws IllegalArgumentException, IllegalStateException {
        if (!isUser(user) || !isCell(cell) || !isCell(one) || !isWithin(factor, MOST_FACTOR)) {
            throw new IllegalArgumentException("user, cell, one or factor is out of range");
        }
        if (wouldReadItself(cell, one, NO_CELL)) {
            throw new IllegalStateException("the cell would read itself");
        }
        return giveFormula(user, cell, TIMES, one, NO_CELL, factor);
    }

    public int refresh(int user) throws IllegalArgumentException {
        if (!isUser(user)) {
            throw new IllegalArgumentException("user is out of range");
        }
        forgetChanges();
        return goThrough(user, true);
    }

    // ---- prices and budgets

    public int setPrice(int sheet, int price) throws IllegalArgumentException {
        if (!isSheet(sheet) || price < 0 || price > MOST_PRICE) {
            throw new IllegalArgumentException("sheet or price is out of range");
        }
        int before = ledger.prices[sheet];
        ledger.prices[sheet] = price;
        return before;
    }

    public int grant(int sheet, int money) throws IllegalArgumentException {
        if (!isSheet(sheet) || money < 1 || money > MOST_MONEY) {
            throw new IllegalArgumentException("sheet or money is out of range");
        }
        ledger.budgets[sheet] += money;
        return ledger.budgets[sheet];
    }

    public int budget(int sheet) throws IllegalArgumentException {
        if (!isSheet(sheet)) {
            throw new IllegalArgumentException("sheet is out of range");
        }
        return ledger.budgets[sheet];
    }

    public int earned(int sheet) throws IllegalArgumentException {
        if (!isSheet(sheet)) {
            throw new IllegalArgumentException("sheet is out of range");
        }
        return ledger.earnings[sheet];
    }

    public int caused(int user) throws IllegalArgumentException {
        if (!isUser(user)) {
            throw new IllegalArgumentException("user is out of range");
        }
        return ledger.bills[user];
    }

    // ---- values

    public int value(int cell) throws IllegalArgumentException {
        if (!isCell(cell)) {
            throw new IllegalArgumentException("cell is out of range");
        }
        return values[cell];
    }

    public boolean isMarked(int cell) throws IllegalArgumentException {
        if (!isCell(cell)) {
            throw new IllegalArgumentException("cell is out of range");
        }
        return marked[cell];
    }

    public int valueAnew(int cell) throws IllegalArgumentException {
        if (!isCell(cell)) {
            throw new IllegalArgumentException("cell is out of range");
        }
        for (int place = 0; place < CELLS; place++) {
            int next = order[place];
            if (isCell(next)) {
                fresh[next] = resultOf(next, fresh);
            }
        }
        return fresh[cell];
    }

    // ---- readings

    public int readings() {
        return ledger.keptCount;
    }

    public int reading(int reading) throws IndexOutOfBoundsException {
        if (reading < 0 || reading >= ledger.keptCount || reading >= Ledger.MOST_KEPT) {
            throw new IndexOutOfBoundsException("there is no such reading");
        }
        return ledger.kept[reading];
    }

    public int timesRead(int reader, int read) throws IllegalArgumentException {
        if (!isCell(reader) || !isCell(read)) {
            throw new IllegalArgumentException("reader or read is out of range");
        }
        return ledger.counts[reader * CELLS + read];
    }

    public int readOf(int sheet) throws IllegalArgumentException {
        if (!isSheet(sheet)) {
            throw new IllegalArgumentException("sheet is out of range");
        }
        return ledger.readsOf[sheet];
    }

    // ---- ranges

    private static boolean isUser(int user) {
        return user >= 0 && user < USERS;
    }

    private static boolean isSheet(int sheet) {
        return sheet >= 0 && sheet < SHEETS;
    }

    private static boolean isCell(int cell) {
        return cell >= 0 && cell < CELLS;
    }

    private static boolean isWithin(int number, int bound) {
        return number >= -bound && number <= bound;
    }

    private static int sheetOf(int cell) {
        return cell / CELLS_OF_A_SHEET;
    }

    // ---- formulas and their order

    /** Whether one or other is the cell or reads it, directly or over others. */
    private boolean wouldReadItself(int cell, int one, int other) {
        for (int each = 0; each < CELLS; each++) {
            reaching[each] = each == cell;
        }
        // In the order each cell comes after all that it reads, so that one pass is enough.
        for (int place = 0; place < CELLS; place++) {
            int next = order[place];
            if (isCell(next) && readsOneOf(next, reaching)) {
                reaching[next] = true;
            }
        }
        return isIn(one, reaching) || isIn(other, reaching);
    }

    private boolean readsOneOf(int cell, boolean[] set) {
        return isIn(ones[cell], set) || isIn(others[cell], set);
    }

    private static boolean isIn(int cell, boolean[] set) {
        return cell >= 0 && cell < set.length && set[cell];
    }

    private int giveFormula(int user, int cell, int kind, int one, int other, int number) {
        kinds[cell] = kind;
        ones[cell] = one;
        others[cell] = other;
        numbers[cell] = number;
        putInOrder();
        forgetChanges();
        compute(user, cell);
        return 1 + goThrough(user, false);
    }

    private void putInOrder() {
        for (int cell = 0; cell < CELLS; cell++) {
            placed[cell] = false;
        }
        for (int place = 0; place < CELLS; place++) {
            int next = lowestFreeCell();
            order[place] = next;
            if (isCell(next)) {
                placed[next] = true;
            }
        }
    }

    private int lowestFreeCell() {
        for (int cell = 0; cell < CELLS; cell++) {
            if (!placed[cell] && isReady(ones[cell]) && isReady(others[cell])) {
                return cell;
            }
        }
        return NO_CELL;
    }

    private boolean isReady(int read) {
        return read == NO_CELL || isIn(read, placed);
    }

    // ---- computing

    private void forgetChanges() {
        for (int cell = 0; cell < CELLS; cell++) {
            changed[cell] = false;
        }
    }

    /** Goes through all cells in their order and tells how many were due to be computed. */
    private int goThrough(int user, boolean alsoMarked) {
        int count = 0;
        for (int place = 0; place < CELLS; place++) {
            int cell = order[place];
            if (isCell(cell) && (readsOneOf(cell, changed) || alsoMarked && marked[cell])) {
                compute(user, cell);
                count++;
            }
        }
        return count;
    }

    private void compute(int user, int cell) {
        int one = meteredRead(cell, ones[cell]);
        // A cell that the formula names twice is read once.
        int other = others[cell] == ones[cell] ? NO_CELL : meteredRead(cell, others[cell]);
        marked[cell] = !ledger.paysFor(user, cell, one, other);
        if (!marked[cell]) {
            int result = resultOf(cell, values);
            changed[cell] = result != values[cell];
            values[cell] = result;
        }
    }

    /** The cell that is read, if it is in another sheet than its reader; else no cell. */
    private static int meteredRead(int reader, int read) {
        return isCell(read) && sheetOf(read) != sheetOf(reader) ? read : NO_CELL;
    }

    private int resultOf(int cell, int[] from) {
        int one = valueIn(from, ones[cell]);
        int other = valueIn(from, others[cell]);
        switch (kinds[cell]) {
            case SUM:
                return held(one + other + numbers[cell]);
            case GREATER:
                return Math.max(one, other);
            case TIMES:
                return held(one * numbers[cell]);
            default:
                return numbers[cell];
        }
    }

    private static int valueIn(int[] from, int cell) {
        return cell >= 0 && cell < from.length ? from[cell] : 0;
    }

    private static int held(int result) {
        return Math.max(-MOST_VALUE, Math.min(MOST_VALUE, result));
    }

    /** What readings cost, who paid, earned and caused it, and the trace of them. */
    private static final class Ledger {
        private static final int MOST_KEPT = 500;
        private static final int FIRST_PRICE = 1;
        private static final int FIRST_BUDGET = 100;

        private final int[] prices = new int[SHEETS];
        private final int[] budgets = new int[SHEETS];
        private final int[] earnings = new int[SHEETS];
        private final int[] readsOf = new int[SHEETS];
        private final int[] bills = new int[USERS];
        private final int[] counts = new int[CELLS * CELLS];
        private final int[] kept = new int[MOST_KEPT];
        private int keptCount = 0;

        private Ledger() {
            for (int sheet = 0; sheet < SHEETS; sheet++) {
                prices[sheet] = FIRST_PRICE;
                budgets[sheet] = FIRST_BUDGET;
            }
        }

        /** Has the reader's sheet pay for its readings of one and other, if its budget is enough. */
        private boolean paysFor(int user, int reader, int one, int other) {
            int sheet = sheetOf(reader);
            int cost = costOf(one) + costOf(other);
            if (budgets[sheet] < cost) {
                return false;
            }
            budgets[sheet] -= cost;
            enter(user, reader, one);
            enter(user, reader, other);
            return true;
        }

        private int costOf(int read) {
            return isCell(read) ? prices[sheetOf(read)] : 0;
        }

        private void enter(int user, int reader, int read) {
            if (!isCell(read)) {
                return;
            }
            int sheet = sheetOf(read);
            earnings[sheet] += prices[sheet];
            bills[user] += prices[sheet];
            readsOf[sheet]++;
            counts[reader * CELLS + read]++;
            if (keptCount < MOST_KEPT) {
                kept[keptCount] = 10000 * user + 100 * reader + read;
                keptCount++;
            }
        }
    }
}
