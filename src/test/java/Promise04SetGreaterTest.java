public final class Promise04SetGreaterTest {
    public static void main(String[] args) {
        Check check = new Check();
        MeteredSheets x = new MeteredSheets();
        x.setNumber(0, 0, -10);
        x.setNumber(0, 1, -20);
        check.due("setGreater", x.setGreater(4, 23, 0, 1), 1);
        check.due("value of the first", x.value(23), -10);
        check.due("setGreater", x.setGreater(0, 2, 1, 0), 1);
        check.due("value of the second", x.value(2), -10);
        check.due("setGreater of one cell twice", x.setGreater(0, 3, 1, 1), 1);
        check.due("value of one cell twice", x.value(3), -20);
        check.due("setNumber under them", x.setNumber(0, 1, 5), 4);
        check.due("value changes sides", x.value(23), 5);
        for (int user : new int[] {-1, 5, Integer.MIN_VALUE, Integer.MAX_VALUE}) {
            check.illegal("setGreater by user " + user, x, () -> x.setGreater(user, 5, 1, 2));
        }
        for (int cell : new int[] {-1, 24, Integer.MIN_VALUE, Integer.MAX_VALUE}) {
            check.illegal("setGreater of cell " + cell, x, () -> x.setGreater(0, cell, 1, 2));
            check.illegal("setGreater of one " + cell, x, () -> x.setGreater(0, 5, cell, 2));
            check.illegal("setGreater of other " + cell, x, () -> x.setGreater(0, 5, 1, cell));
            check.illegal("setGreater of itself and " + cell, x, () -> x.setGreater(0, 5, 5, cell));
        }
        check.loop("setGreater of itself", x, () -> x.setGreater(0, 5, 5, 2));
        check.loop("setGreater of itself as the other", x, () -> x.setGreater(0, 5, 2, 5));
        check.loop("setGreater over another", x, () -> x.setGreater(0, 0, 5, 23));
        check.loop("setGreater over one", x, () -> x.setGreater(0, 1, 3, 5));
        check.end();
    }
}
