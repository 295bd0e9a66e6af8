public final class Promise03SetSumTest {
    public static void main(String[] args) {
        Check check = new Check();
        MeteredSheets x = new MeteredSheets();
        x.setNumber(0, 0, 10);
        x.setNumber(0, 1, 200);
        check.due("setSum", x.setSum(4, 23, 0, 1, 1000), 1);
        check.due("value of a sum", x.value(23), 1210);
        check.due("setSum of the least more", x.setSum(0, 2, 1, 0, -1000), 1);
        check.due("value of a sum", x.value(2), -790);
        check.due("setSum of one cell twice", x.setSum(0, 3, 0, 0, 1), 1);
        check.due("value of a sum of one cell twice", x.value(3), 21);
        check.due("setNumber under sums", x.setNumber(0, 0, 11), 4);
        for (int user : new int[] {-1, 5, Integer.MIN_VALUE, Integer.MAX_VALUE}) {
            check.illegal("setSum by user " + user, x, () -> x.setSum(user, 5, 1, 2, 0));
        }
        for (int cell : new int[] {-1, 24, Integer.MIN_VALUE, Integer.MAX_VALUE}) {
            check.illegal("setSum of cell " + cell, x, () -> x.setSum(0, cell, 1, 2, 0));
            check.illegal("setSum of one " + cell, x, () -> x.setSum(0, 5, cell, 2, 0));
            check.illegal("setSum of other " + cell, x, () -> x.setSum(0, 5, 1, cell, 0));
            check.illegal("setSum of itself and " + cell, x, () -> x.setSum(0, 5, 5, cell, 0));
        }
        for (int more : new int[] {-1001, 1001, Integer.MIN_VALUE, Integer.MAX_VALUE}) {
            check.illegal("setSum and " + more, x, () -> x.setSum(0, 5, 1, 2, more));
            check.illegal("setSum of itself and " + more, x, () -> x.setSum(0, 5, 5, 2, more));
        }
        check.loop("setSum of itself", x, () -> x.setSum(0, 5, 5, 2, 0));
        check.loop("setSum of itself as the other", x, () -> x.setSum(0, 5, 2, 5, 0));
        check.loop("setSum over another", x, () -> x.setSum(0, 0, 5, 23, 0));
        check.loop("setSum over the other", x, () -> x.setSum(0, 1, 5, 2, 0));
        bounds(check);
        check.end();
    }

    private static void bounds(Check check) {
        MeteredSheets x = new MeteredSheets();
        x.setNumber(0, 0, 1000000);
        x.setNumber(0, 1, -1000000);
        x.setSum(0, 2, 0, 0, 1000);
        check.due("beyond the upper bound", x.value(2), 1000000);
        x.setSum(0, 2, 1, 1, -1000);
        check.due("beyond the lower bound", x.value(2), -1000000);
        x.setSum(0, 2, 0, 3, -1);
        check.due("below the upper bound", x.value(2), 999999);
        x.setSum(0, 2, 1, 3, 1);
        check.due("above the lower bound", x.value(2), -999999);
        x.setSum(0, 2, 0, 1, 7);
        check.due("between both", x.value(2), 7);
    }
}
