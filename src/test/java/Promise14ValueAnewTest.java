public final class Promise14ValueAnewTest {
    public static void main(String[] args) {
        Check check = new Check();
        MeteredSheets x = new MeteredSheets();
        x.setNumber(0, 3, 20);
        x.setPrice(0, 100);
        x.setSum(0, 23, 3, 2, 1);
        x.setTimes(0, 22, 23, 3);
        x.setGreater(0, 1, 22, 3);
        check.due("value of a marked cell", x.value(23), 0);
        check.due("valueAnew of a marked cell", x.valueAnew(23), 21);
        check.due("valueAnew behind it", x.valueAnew(22), 63);
        check.due("valueAnew behind that", x.valueAnew(1), 63);
        check.due("valueAnew of a number", x.valueAnew(3), 20);
        String before = State.of(x);
        x.valueAnew(1);
        check.due("the state after valueAnew", State.of(x), before);
        check.due("the mark stays", x.isMarked(23), true);
        check.due("the value stays", x.value(22), 0);
        for (int cell : new int[] {-1, 24, Integer.MIN_VALUE, Integer.MAX_VALUE}) {
            check.illegal("valueAnew of cell " + cell, x, () -> x.valueAnew(cell));
        }
        bounds(check);
        check.end();
    }

    private static void bounds(Check check) {
        MeteredSheets x = new MeteredSheets();
        x.setPrice(0, 100);
        x.setNumber(0, 0, 1000000);
        x.setNumber(0, 1, -1000000);
        x.setSum(0, 6, 0, 1, 0);
        x.setTimes(0, 7, 6, 100);
        check.due("valueAnew", x.valueAnew(7), 0);
        x.setTimes(0, 6, 0, -100);
        check.due("valueAnew holds each value between the bounds", x.valueAnew(6), -1000000);
        x.setSum(0, 7, 6, 0, 5);
        check.due("valueAnew goes on from the bound", x.valueAnew(7), 5);
    }
}
