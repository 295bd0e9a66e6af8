public final class Promise13IsMarkedTest {
    private static final Check CHECK = new Check("promise 13");

    public static void main(String[] args) {
        answersForAllCells();
        refusesOtherCells();
        isMarkedByAFormula();
        isMarkedByAChange();
        staysMarkedUntilItIsComputed();
        isNotMarkedOnceItIsComputed();
        marksInTheOrderOfAllCells();
        CHECK.end();
    }

    /** Sheet 3 or, for its own cells, sheet 2 is read, of no budget but one, at the price 2. */
    private static void answersForAllCells() {
        for (int cell = 0; cell <= 23; cell++) {
            Run x = new Run();
            int read = cell < 18 ? 23 : 17;
            x.setPrice(Sheets.of(read), 99);
            x.setTimes(0, cell, read, 1);
            x.setPrice(Sheets.of(read), 2);
            CHECK.due("not marked", x.isMarked(cell), false);
            x.setTimes(0, cell, read, 1);
            for (int other = 0; other <= 23; other++) {
                CHECK.due("isMarked of cell " + other + " where " + cell + " is", x.isMarked(other), other == cell);
            }
        }
    }

    private static void refusesOtherCells() {
        Run x = new Run();
        x.setTimes(0, 6, 0, 1);
        for (int cell : Check.outside(0, 23)) {
            CHECK.illegal("isMarked of cell " + cell, x, () -> x.isMarked(cell) ? 1 : 0);
        }
    }

    private static void isMarkedByAFormula() {
        Run x = new Run();
        x.setPrice(0, 100);
        x.setTimes(0, 23, 0, 1);
        CHECK.due("the budget is just enough", x.isMarked(23), false);
        x.setTimes(0, 22, 0, 1);
        CHECK.due("the budget is used up", x.isMarked(22), true);
        x.setTimes(0, 21, 22, 1);
        CHECK.due("a cell over a marked one is computed", x.isMarked(21), false);
    }

    private static void isMarkedByAChange() {
        Run x = new Run();
        x.setPrice(0, 100);
        x.setTimes(0, 23, 0, 1);
        x.setNumber(0, 0, 0);
        CHECK.due("no other value", x.isMarked(23), false);
        x.setNumber(0, 0, 1);
        CHECK.due("another value", x.isMarked(23), true);
        CHECK.due("its value is kept", x.value(23), 0);
    }

    private static void staysMarkedUntilItIsComputed() {
        Run x = new Run();
        x.setPrice(0, 100);
        x.setTimes(0, 23, 0, 1);
        x.setNumber(0, 0, 1);
        x.setNumber(0, 0, 0);
        CHECK.due("a value as before takes no mark away", x.isMarked(23), true);
        x.refresh(0);
        CHECK.due("a refresh without budget", x.isMarked(23), true);
        x.grant(3, 99);
        x.refresh(0);
        CHECK.due("a refresh with a budget that is less by one", x.isMarked(23), true);
        x.grant(3, 1);
        CHECK.due("a grant", x.isMarked(23), true);
        x.setNumber(0, 0, 0);
        CHECK.due("a number as before", x.isMarked(23), true);
        x.setPrice(0, 0);
        CHECK.due("a price", x.isMarked(23), true);
        CHECK.due("valueAnew", x.valueAnew(23), 0);
        CHECK.due("and after it", x.isMarked(23), true);
    }

    private static void isNotMarkedOnceItIsComputed() {
        Run x = new Run();
        x.setPrice(0, 100);
        x.setTimes(0, 18, 0, 1);
        for (int cell = 19; cell <= 22; cell++) {
            x.setTimes(0, cell, 0, 1);
            CHECK.due("cell " + cell + " without budget", x.isMarked(cell), true);
        }
        x.setNumber(0, 19, 0);
        CHECK.due("a number in its place", x.isMarked(19), false);
        x.setTimes(0, 20, 19, 1);
        CHECK.due("a formula over the own sheet in its place", x.isMarked(20), false);
        x.setPrice(0, 0);
        x.setTimes(0, 21, 0, 1);
        CHECK.due("the same formula, paid", x.isMarked(21), false);
        x.refresh(0);
        CHECK.due("a refresh that gives the value as before", x.isMarked(22), false);
    }

    /** The order of the sheet is 7, 8, 6, 9, as 6 waits for 8. */
    private static void marksInTheOrderOfAllCells() {
        Run x = new Run();
        x.setTimes(0, 7, 0, 1);
        x.setTimes(0, 8, 0, 1);
        x.setSum(0, 6, 8, 0, 0);
        x.setTimes(0, 9, 0, 1);
        x.setPrice(0, 32);
        CHECK.due("a change that can pay for three", x.setNumber(0, 0, 5), 5);
        CHECK.due("the last in the order is marked", x.isMarked(9), true);
        CHECK.due("the others are not", x.isMarked(6) || x.isMarked(7) || x.isMarked(8), false);
        x.grant(1, 64);
        CHECK.due("a change that can pay for two", x.setNumber(0, 0, 6), 5);
        CHECK.due("the one that waits is marked", x.isMarked(6), true);
        CHECK.due("the first two are not", x.isMarked(7) || x.isMarked(8), false);
        CHECK.due("the last is marked still", x.isMarked(9), true);
    }
}
