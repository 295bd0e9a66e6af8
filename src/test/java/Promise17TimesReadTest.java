public final class Promise17TimesReadTest {
    public static void main(String[] args) {
        Check check = new Check();
        MeteredSheets x = new MeteredSheets();
        x.setSum(0, 23, 17, 5, 0);
        check.due("timesRead of one", x.timesRead(23, 17), 1);
        check.due("timesRead of other", x.timesRead(23, 5), 1);
        check.due("timesRead the other way round", x.timesRead(5, 23), 0);
        x.setNumber(1, 5, 2);
        check.due("timesRead after a change", x.timesRead(23, 5), 2);
        check.due("both are read again", x.timesRead(23, 17), 2);
        x.setNumber(1, 23, 2);
        check.due("timesRead stays when the formula goes", x.timesRead(23, 17), 2);
        x.setGreater(1, 0, 6, 6);
        check.due("one cell twice is read once", x.timesRead(0, 6), 1);
        x.setSum(1, 1, 0, 0, 0);
        check.due("the own sheet is not metered", x.timesRead(1, 0), 0);
        x.setPrice(3, 100);
        x.setTimes(1, 2, 18, 1);
        check.due("nothing is read without budget", x.timesRead(2, 18), 0);
        for (int cell : new int[] {-1, 24, Integer.MIN_VALUE, Integer.MAX_VALUE}) {
            check.illegal("timesRead by cell " + cell, x, () -> x.timesRead(cell, 0));
            check.illegal("timesRead of cell " + cell, x, () -> x.timesRead(0, cell));
        }
        check.end();
    }
}
