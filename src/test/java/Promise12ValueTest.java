public final class Promise12ValueTest {
    private static final Check CHECK = new Check("promise 12");

    public static void main(String[] args) {
        answersForAllCells();
        refusesOtherCells();
        isHeldBetweenTheBoundsStepByStep();
        isKeptWithoutBudget();
        CHECK.end();
    }

    private static void answersForAllCells() {
        Run x = new Run();
        for (int cell = 0; cell <= 23; cell++) {
            x.setNumber(0, cell, 100 - cell);
        }
        for (int cell = 0; cell <= 23; cell++) {
            CHECK.due("value of cell " + cell, x.value(cell), 100 - cell);
        }
        x.setSum(0, 23, 22, 21, 0);
        CHECK.due("value of a sum", x.value(23), 78 + 79);
        x.setNumber(0, 22, 0);
        CHECK.due("value after a change", x.value(23), 79);
    }

    private static void refusesOtherCells() {
        Run x = new Run();
        x.setTimes(0, 6, 0, 1);
        for (int cell : Check.outside(0, 23)) {
            CHECK.illegal("value of cell " + cell, x, () -> x.value(cell));
        }
    }

    private static void isHeldBetweenTheBoundsStepByStep() {
        Run x = new Run();
        x.setTimes(0, 1, 0, 100);
        x.setTimes(0, 2, 1, -100);
        x.setSum(0, 3, 1, 2, 1);
        x.setNumber(0, 0, 10001);
        CHECK.due("the first is at the upper bound", x.value(1), 1000000);
        CHECK.due("the second is at the lower bound", x.value(2), -1000000);
        CHECK.due("the third goes on from both bounds", x.value(3), 1);
        x.setNumber(0, 0, -10001);
        CHECK.due("the first is at the lower bound", x.value(1), -1000000);
        CHECK.due("the second is at the upper bound", x.value(2), 1000000);
        CHECK.due("the third goes on from both bounds", x.value(3), 1);
    }

    private static void isKeptWithoutBudget() {
        Run x = new Run();
        x.setNumber(0, 6, 42);
        x.setNumber(0, 0, 7);
        x.setPrice(0, 51);
        x.setSum(0, 6, 0, 1, 0);
        CHECK.due("a new formula without budget keeps the value", x.value(6), 42);
        x.setTimes(0, 7, 6, 2);
        CHECK.due("others read the value that is kept", x.value(7), 84);
        x.setPrice(0, 50);
        x.refresh(0);
        CHECK.due("the formula stands all the same", x.value(6), 7);
        CHECK.due("others follow", x.value(7), 14);
        x.setNumber(0, 0, 8);
        CHECK.due("a change without budget keeps the value", x.value(6), 7);
    }
}
