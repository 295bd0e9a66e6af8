public final class Promise14ValueAnewTest {
    private static final Check CHECK = new Check("promise 14");

    public static void main(String[] args) {
        answersForAllCells();
        refusesOtherCells();
        computesAllWhateverItCosts();
        changesNothing();
        isHeldBetweenTheBoundsStepByStep();
        goesOverAllCells();
        CHECK.end();
    }

    private static void answersForAllCells() {
        Run x = new Run();
        for (int cell = 0; cell <= 23; cell++) {
            x.setNumber(0, cell, 100 - cell);
        }
        for (int cell = 0; cell <= 23; cell++) {
            CHECK.due("valueAnew of cell " + cell, x.valueAnew(cell), 100 - cell);
        }
    }

    private static void refusesOtherCells() {
        Run x = new Run();
        x.setTimes(0, 6, 0, 1);
        for (int cell : Check.outside(0, 23)) {
            CHECK.illegal("valueAnew of cell " + cell, x, () -> x.valueAnew(cell));
        }
    }

    /** Cell 23 is marked, as its sheet lacks one. */
    private static Run withOneMarked() {
        Run x = new Run();
        x.setNumber(0, 3, 20);
        x.setPrice(0, 51);
        x.setPrice(1, 50);
        x.setSum(0, 23, 3, 6, 1);
        x.setTimes(0, 22, 23, 3);
        x.setGreater(0, 1, 22, 3);
        return x;
    }

    private static void computesAllWhateverItCosts() {
        Run x = withOneMarked();
        CHECK.due("value of a marked cell", x.value(23), 0);
        CHECK.due("valueAnew of a marked cell", x.valueAnew(23), 21);
        CHECK.due("valueAnew behind it", x.valueAnew(22), 63);
        CHECK.due("valueAnew behind that", x.valueAnew(1), 63);
        CHECK.due("valueAnew of a number", x.valueAnew(3), 20);
        x.grant(3, 1);
        x.refresh(0);
        CHECK.due("value after a refresh", x.value(1), 63);
        CHECK.due("valueAnew after a refresh", x.valueAnew(1), 63);
    }

    private static void changesNothing() {
        Run x = withOneMarked();
        x.grant(3, 1);
        String before = State.of(x);
        CHECK.due("valueAnew of a marked cell that could be paid", x.valueAnew(23), 21);
        CHECK.due("the state after valueAnew", State.of(x), before);
        CHECK.due("valueAnew behind it", x.valueAnew(1), 63);
        CHECK.due("the state after valueAnew", State.of(x), before);
    }

    private static void isHeldBetweenTheBoundsStepByStep() {
        Run x = new Run();
        x.setNumber(0, 0, 10001);
        x.setPrice(0, 100);
        x.setTimes(0, 11, 0, 1);
        x.setTimes(0, 6, 0, 100);
        x.setTimes(0, 7, 6, -100);
        x.setSum(0, 8, 6, 7, 1);
        CHECK.due("value of a marked cell", x.value(6), 0);
        CHECK.due("valueAnew at the upper bound", x.valueAnew(6), 1000000);
        CHECK.due("valueAnew at the lower bound", x.valueAnew(7), -1000000);
        CHECK.due("valueAnew goes on from both bounds", x.valueAnew(8), 1);
    }

    /** The chain goes downwards, so that the order of all cells is 23 to 0. */
    private static void goesOverAllCells() {
        Run x = new Run();
        for (int sheet = 0; sheet <= 3; sheet++) {
            x.setPrice(sheet, 100);
        }
        for (int cell = 22; cell >= 0; cell--) {
            x.setSum(0, cell, cell + 1, cell + 1, 1);
        }
        for (int cell = 0; cell <= 23; cell++) {
            int most = (1 << 23 - cell) - 1;
            CHECK.due("valueAnew of cell " + cell, x.valueAnew(cell), Math.min(most, 1000000));
        }
        x.setNumber(0, 23, -1);
        for (int cell = 0; cell <= 23; cell++) {
            CHECK.due("valueAnew of cell " + cell + " over -1", x.valueAnew(cell), -1);
        }
        CHECK.due("values that a change could not reach", x.value(17) != -1, true);
    }
}
