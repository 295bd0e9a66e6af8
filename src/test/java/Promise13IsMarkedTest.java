public final class Promise13IsMarkedTest {
    public static void main(String[] args) {
        Check check = new Check();
        MeteredSheets x = new MeteredSheets();
        x.setPrice(0, 100);
        x.setTimes(0, 23, 0, 1);
        check.due("not marked where the budget is just enough", x.isMarked(23), false);
        x.setTimes(0, 22, 0, 1);
        check.due("marked where it is not", x.isMarked(22), true);
        check.due("another cell is not marked", x.isMarked(21), false);
        x.setNumber(0, 0, 1);
        check.due("marked by a change", x.isMarked(23), true);
        x.setNumber(0, 0, 0);
        check.due("a value as before takes no mark away", x.isMarked(23), true);
        x.grant(3, 100);
        x.setNumber(0, 0, 0);
        check.due("no change, no computing", x.isMarked(23), true);
        x.setNumber(0, 0, 1);
        check.due("the lower one in the order is computed", x.isMarked(22), false);
        check.due("the later one is not", x.isMarked(23), true);
        x.setTimes(0, 23, 18, 1);
        check.due("a new formula takes the mark away", x.isMarked(23), false);
        for (int cell : new int[] {-1, 24, Integer.MIN_VALUE, Integer.MAX_VALUE}) {
            check.illegal("isMarked of cell " + cell, x, () -> x.isMarked(cell) ? 1 : 0);
        }
        check.end();
    }
}
