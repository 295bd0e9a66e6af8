public final class Promise05SetTimesTest {
    public static void main(String[] args) {
        Check check = new Check();
        MeteredSheets x = new MeteredSheets();
        x.setNumber(0, 0, 30);
        check.due("setTimes", x.setTimes(4, 23, 0, 100), 1);
        check.due("value of the most", x.value(23), 3000);
        check.due("setTimes", x.setTimes(0, 1, 0, -100), 1);
        check.due("value of the least", x.value(1), -3000);
        check.due("setTimes of 0", x.setTimes(0, 6, 0, 0), 1);
        check.due("value of 0 times", x.value(6), 0);
        check.due("0 times a cell reads it too", x.timesRead(6, 0), 1);
        check.due("setNumber under them", x.setNumber(0, 0, 31), 4);
        for (int user : new int[] {-1, 5, Integer.MIN_VALUE, Integer.MAX_VALUE}) {
            check.illegal("setTimes by user " + user, x, () -> x.setTimes(user, 5, 1, 2));
        }
        for (int cell : new int[] {-1, 24, Integer.MIN_VALUE, Integer.MAX_VALUE}) {
            check.illegal("setTimes of cell " + cell, x, () -> x.setTimes(0, cell, 1, 2));
            check.illegal("setTimes of one " + cell, x, () -> x.setTimes(0, 5, cell, 2));
        }
        for (int factor : new int[] {-101, 101, Integer.MIN_VALUE, Integer.MAX_VALUE}) {
            check.illegal("setTimes by " + factor, x, () -> x.setTimes(0, 5, 1, factor));
            check.illegal("setTimes of itself by " + factor, x, () -> x.setTimes(0, 5, 5, factor));
        }
        check.loop("setTimes of itself", x, () -> x.setTimes(0, 5, 5, 2));
        check.loop("setTimes over another", x, () -> x.setTimes(0, 0, 23, 2));
        check.loop("0 times itself", x, () -> x.setTimes(0, 0, 6, 0));
        longLoop(check);
        bounds(check);
        check.end();
    }

    private static void longLoop(Check check) {
        MeteredSheets x = new MeteredSheets();
        for (int cell = 23; cell > 0; cell--) {
            x.setTimes(0, cell - 1, cell, 1);
        }
        check.loop("a loop over all cells", x, () -> x.setTimes(0, 23, 0, 1));
        check.due("a number over all cells", x.setNumber(0, 23, 5), 24);
        check.due("the last of the chain", x.value(0), 5);
    }

    private static void bounds(Check check) {
        MeteredSheets x = new MeteredSheets();
        x.setNumber(0, 0, 10000);
        x.setTimes(0, 1, 0, 100);
        check.due("at the upper bound", x.value(1), 1000000);
        x.setTimes(0, 2, 0, -100);
        check.due("at the lower bound", x.value(2), -1000000);
        x.setTimes(0, 3, 1, 100);
        check.due("beyond the upper bound", x.value(3), 1000000);
        x.setTimes(0, 3, 2, 100);
        check.due("beyond the lower bound", x.value(3), -1000000);
        x.setTimes(0, 3, 2, -100);
        check.due("beyond the upper bound by two signs", x.value(3), 1000000);
    }
}
