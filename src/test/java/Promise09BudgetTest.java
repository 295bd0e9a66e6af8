public final class Promise09BudgetTest {
    public static void main(String[] args) {
        Check check = new Check();
        MeteredSheets x = new MeteredSheets();
        x.setPrice(0, 10);
        x.setPrice(2, 30);
        x.setSum(0, 6, 0, 12, 0);
        check.due("the budget of the sheet that reads", x.budget(1), 60);
        check.due("the budget of a sheet that is read", x.budget(0), 100);
        check.due("the budget of the other sheet that is read", x.budget(2), 100);
        x.setSum(0, 7, 0, 1, 0);
        check.due("two cells of one sheet are paid both", x.budget(1), 40);
        x.setGreater(0, 8, 12, 12);
        check.due("one cell twice is paid once", x.budget(1), 10);
        x.setSum(0, 9, 0, 8, 0);
        check.due("the own sheet is free, and all may be spent", x.budget(1), 0);
        check.due("and the cell is computed", x.isMarked(9), false);
        x.setTimes(0, 10, 0, 1);
        check.due("nothing is taken where it is not enough", x.budget(1), 0);
        check.due("and the cell is marked", x.isMarked(10), true);
        x.grant(1, 39);
        x.setSum(0, 11, 0, 12, 0);
        check.due("nothing is taken where one is short", x.budget(1), 39);
        check.due("and the cell is marked", x.isMarked(11), true);
        check.due("and nothing is read", x.timesRead(11, 0), 0);
        for (int sheet : new int[] {-1, 4, Integer.MIN_VALUE, Integer.MAX_VALUE}) {
            check.illegal("budget of sheet " + sheet, x, () -> x.budget(sheet));
        }
        check.end();
    }
}
