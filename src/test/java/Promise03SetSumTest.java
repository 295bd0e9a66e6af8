public final class Promise03SetSumTest {
    private static final Check CHECK = new Check("promise 3");

    public static void main(String[] args) {
        new FormulaChecks(CHECK, "setSum", (x, user, cell, one, other) -> x.setSum(user, cell, one, other, 1)).all();
        new FormulaChecks(CHECK, "setSum turned", (x, user, cell, one, other) -> x.setSum(user, cell, other, one, 1))
            .all();
        takesAllWithinTheRanges();
        refusesAllOutsideTheRanges();
        outOfRangeComesBeforeALoop();
        oneCellTwiceIsReadOnce();
        theBoundsOfAValue();
        CHECK.end();
    }

    private static void takesAllWithinTheRanges() {
        Run x = new Run();
        x.setNumber(0, 0, 10);
        x.setNumber(0, 1, 200);
        x.setNumber(0, 23, 4000);
        for (int more : new int[] {-1000, -999, -1, 0, 1, 999, 1000}) {
            CHECK.due("setSum and " + more, x.setSum(0, 2, 0, 1, more), 1);
            CHECK.due("value then", x.value(2), 210 + more);
        }
        CHECK.due("setSum of the first and the last cell", x.setSum(4, 5, 0, 23, 0), 1);
        CHECK.due("value then", x.value(5), 4010);
        CHECK.due("setSum of the last and the first cell", x.setSum(4, 5, 23, 0, -1), 1);
        CHECK.due("value then", x.value(5), 4009);
    }

    private static void refusesAllOutsideTheRanges() {
        Run x = new Run();
        x.setNumber(0, 1, 3);
        x.setSum(0, 6, 1, 2, 5);
        for (int more : Check.outside(-1000, 1000)) {
            CHECK.illegal("setSum and " + more, x, () -> x.setSum(0, 6, 1, 2, more));
        }
        CHECK.illegal("setSum of nothing within", x, () -> x.setSum(5, -1, 24, -1, 1001));
    }

    private static void outOfRangeComesBeforeALoop() {
        Run x = new Run();
        x.setSum(0, 6, 1, 2, 5);
        for (int more : Check.outside(-1000, 1000)) {
            CHECK.illegal("setSum of itself and " + more, x, () -> x.setSum(0, 6, 6, 2, more));
            CHECK.illegal("setSum of itself as the other and " + more, x, () -> x.setSum(0, 6, 2, 6, more));
            CHECK.illegal("setSum over another and " + more, x, () -> x.setSum(0, 1, 6, 6, more));
        }
    }

    private static void oneCellTwiceIsReadOnce() {
        Run x = new Run();
        x.setNumber(0, 0, 10);
        x.setPrice(0, 100);
        CHECK.due("setSum of one cell twice", x.setSum(1, 6, 0, 0, 1), 1);
        CHECK.due("value counts it twice", x.value(6), 21);
        CHECK.due("it is paid once", x.budget(1), 0);
        CHECK.due("it is one reading", x.readings(), 1);
    }

    private static void theBoundsOfAValue() {
        Run x = new Run();
        x.setNumber(0, 0, 999500);
        x.setNumber(0, 1, -999500);
        sum(x, 0, 3, 499, 999999);
        sum(x, 0, 3, 500, 1000000);
        sum(x, 0, 3, 501, 1000000);
        sum(x, 1, 3, -499, -999999);
        sum(x, 1, 3, -500, -1000000);
        sum(x, 1, 3, -501, -1000000);
        x.setNumber(0, 0, 1000000);
        x.setNumber(0, 1, -1000000);
        sum(x, 0, 0, 1000, 1000000);
        sum(x, 0, 0, -1000, 1000000);
        sum(x, 1, 1, -1000, -1000000);
        sum(x, 1, 1, 1000, -1000000);
        // The two cells and the number are held as one, not one after the other.
        x.setNumber(0, 4, 1000);
        x.setNumber(0, 5, -1000);
        sum(x, 0, 4, -1000, 1000000);
        sum(x, 1, 5, 1000, -1000000);
        sum(x, 0, 1, 7, 7);
    }

    private static void sum(Run x, int one, int other, int more, int want) {
        String call = "the sum of " + x.value(one) + ", " + x.value(other) + " and " + more;
        x.setSum(0, 2, one, other, more);
        CHECK.due(call, x.value(2), want);
        CHECK.due(call + " anew", x.valueAnew(2), want);
    }
}
