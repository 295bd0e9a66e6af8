public final class Promise04SetGreaterTest {
    private static final Check CHECK = new Check("promise 4");

    public static void main(String[] args) {
        new FormulaChecks(CHECK, "setGreater", (x, user, cell, one, other) -> x.setGreater(user, cell, one, other))
            .all();
        new FormulaChecks(CHECK, "setGreater turned",
            (x, user, cell, one, other) -> x.setGreater(user, cell, other, one)).all();
        isTheGreaterOne();
        theBoundsOfAValue();
        oneCellTwiceIsReadOnce();
        nothingWithin();
        CHECK.end();
    }

    private static void isTheGreaterOne() {
        Run x = new Run();
        x.setNumber(0, 0, -10);
        x.setNumber(0, 23, -20);
        CHECK.due("setGreater of the first and the last cell", x.setGreater(0, 2, 0, 23), 1);
        CHECK.due("the first is greater", x.value(2), -10);
        CHECK.due("setGreater of the last and the first cell", x.setGreater(0, 2, 23, 0), 1);
        CHECK.due("the second is greater", x.value(2), -10);
        x.setNumber(0, 23, -9);
        CHECK.due("the other is greater by one then", x.value(2), -9);
        x.setNumber(0, 0, -9);
        CHECK.due("both are the same", x.value(2), -9);
    }

    private static void theBoundsOfAValue() {
        Run x = new Run();
        x.setNumber(0, 0, 1000000);
        x.setNumber(0, 1, -1000000);
        x.setGreater(0, 2, 0, 1);
        CHECK.due("the greater one of both bounds", x.value(2), 1000000);
        x.setGreater(0, 2, 1, 0);
        CHECK.due("the greater one of both bounds, turned", x.value(2), 1000000);
        x.setGreater(0, 2, 1, 1);
        CHECK.due("the lower bound twice", x.value(2), -1000000);
    }

    private static void oneCellTwiceIsReadOnce() {
        Run x = new Run();
        x.setNumber(0, 0, -10);
        x.setPrice(0, 100);
        CHECK.due("setGreater of one cell twice", x.setGreater(1, 6, 0, 0), 1);
        CHECK.due("value then", x.value(6), -10);
        CHECK.due("it is paid once", x.budget(1), 0);
        CHECK.due("it is one reading", x.readings(), 1);
    }

    private static void nothingWithin() {
        Run x = new Run();
        CHECK.illegal("setGreater of nothing within", x, () -> x.setGreater(5, -1, 24, -1));
    }
}
