public final class Promise05SetTimesTest {
    private static final Check CHECK = new Check("promise 5");

    public static void main(String[] args) {
        new FormulaChecks(CHECK, "setTimes", (x, user, cell, one, other) -> x.setTimes(user, cell, one, 3)).all();
        takesAllWithinTheRanges();
        refusesAllOutsideTheRanges();
        outOfRangeComesBeforeALoop();
        readsTheCellAlsoTimesZero();
        theBoundsOfAValue();
        CHECK.end();
    }

    private static void takesAllWithinTheRanges() {
        Run x = new Run();
        x.setNumber(0, 0, 30);
        x.setNumber(0, 23, 7);
        for (int factor : new int[] {-100, -99, -1, 0, 1, 99, 100}) {
            CHECK.due("setTimes by " + factor, x.setTimes(0, 1, 0, factor), 1);
            CHECK.due("value then", x.value(1), 30 * factor);
        }
        CHECK.due("setTimes of the last cell", x.setTimes(0, 1, 23, 2), 1);
        CHECK.due("value then", x.value(1), 14);
    }

    private static void refusesAllOutsideTheRanges() {
        Run x = new Run();
        x.setNumber(0, 1, 3);
        x.setTimes(0, 6, 1, 2);
        for (int factor : Check.outside(-100, 100)) {
            CHECK.illegal("setTimes by " + factor, x, () -> x.setTimes(0, 6, 1, factor));
        }
        CHECK.illegal("setTimes of nothing within", x, () -> x.setTimes(5, -1, 24, 101));
    }

    private static void outOfRangeComesBeforeALoop() {
        Run x = new Run();
        x.setTimes(0, 6, 1, 2);
        for (int factor : Check.outside(-100, 100)) {
            CHECK.illegal("setTimes of itself by " + factor, x, () -> x.setTimes(0, 6, 6, factor));
            CHECK.illegal("setTimes over another by " + factor, x, () -> x.setTimes(0, 1, 6, factor));
        }
    }

    private static void readsTheCellAlsoTimesZero() {
        Run x = new Run();
        CHECK.due("0 times a cell", x.setTimes(0, 6, 0, 0), 1);
        CHECK.due("the cell is read", x.timesRead(6, 0), 1);
        CHECK.due("a change of what 0 times reads", x.setNumber(0, 0, 5), 2);
        CHECK.due("the cell is read again", x.timesRead(6, 0), 2);
        CHECK.due("value then", x.value(6), 0);
        CHECK.loop("0 times itself over another", x, () -> x.setTimes(0, 0, 6, 0));
        CHECK.loop("0 times itself", x, () -> x.setTimes(0, 6, 6, 0));
    }

    private static void theBoundsOfAValue() {
        Run x = new Run();
        times(x, 10000, 100, 1000000);
        times(x, 10000, -100, -1000000);
        times(x, -10000, -100, 1000000);
        times(x, 333333, 3, 999999);
        times(x, 333333, -3, -999999);
        // 1000001 has no factor up to 100, so 1000002 is the first product beyond the bound.
        times(x, 500001, 2, 1000000);
        times(x, 500001, -2, -1000000);
        times(x, 1000000, 100, 1000000);
        times(x, 1000000, -100, -1000000);
        times(x, -1000000, 100, -1000000);
        times(x, -1000000, -100, 1000000);
        times(x, 1000000, 0, 0);
        times(x, 1000000, -1, -1000000);
    }

    private static void times(Run x, int value, int factor, int want) {
        x.setNumber(0, 0, value);
        x.setTimes(0, 1, 0, factor);
        CHECK.due(value + " times " + factor, x.value(1), want);
        CHECK.due(value + " times " + factor + " anew", x.valueAnew(1), want);
    }
}
