public final class Promise12ValueTest {
    public static void main(String[] args) {
        Check check = new Check();
        MeteredSheets x = new MeteredSheets();
        for (int cell = 0; cell < 24; cell++) {
            x.setNumber(0, cell, 100 - cell);
        }
        for (int cell = 0; cell < 24; cell++) {
            check.due("value of cell " + cell, x.value(cell), 100 - cell);
        }
        x.setSum(0, 23, 22, 21, 0);
        check.due("value of a sum", x.value(23), 78 + 79);
        x.setNumber(0, 22, 0);
        check.due("value after a change", x.value(23), 79);
        for (int cell : new int[] {-1, 24, Integer.MIN_VALUE, Integer.MAX_VALUE}) {
            check.illegal("value of cell " + cell, x, () -> x.value(cell));
        }
        keptWithoutBudget(check);
        check.end();
    }

    private static void keptWithoutBudget(Check check) {
        MeteredSheets x = new MeteredSheets();
        x.setNumber(0, 6, 42);
        x.setNumber(0, 0, 7);
        x.setPrice(0, 51);
        x.setSum(0, 6, 0, 1, 0);
        check.due("a new formula without budget keeps the value", x.value(6), 42);
        x.setTimes(0, 7, 6, 2);
        check.due("others read the value that is kept", x.value(7), 84);
        x.setPrice(0, 50);
        x.refresh(0);
        check.due("the formula stands all the same", x.value(6), 7);
        check.due("others follow", x.value(7), 14);
    }
}
