public final class Promise15ReadingsTest {
    public static void main(String[] args) {
        Check check = new Check();
        MeteredSheets x = new MeteredSheets();
        x.setSum(0, 1, 0, 2, 0);
        check.due("the own sheet is no reading", x.readings(), 0);
        x.setSum(0, 6, 0, 2, 0);
        check.due("two readings", x.readings(), 2);
        x.setSum(0, 7, 0, 6, 0);
        check.due("one in another sheet", x.readings(), 3);
        x.setSum(0, 8, 0, 0, 0);
        check.due("one cell twice is one reading", x.readings(), 4);
        x.setGreater(0, 9, 2, 2);
        check.due("one cell twice is one reading", x.readings(), 5);
        x.setPrice(0, 100);
        x.setTimes(0, 10, 0, 1);
        check.due("no reading without budget", x.readings(), 5);
        x.setNumber(0, 8, 1);
        check.due("a number reads nothing", x.readings(), 5);
        keepsFiveHundred(check);
        check.end();
    }

    private static void keepsFiveHundred(Check check) {
        MeteredSheets x = new MeteredSheets();
        x.grant(1, 10000);
        for (int cell = 6; cell < 12; cell++) {
            x.setSum(1, cell, 0, 12, 0);
        }
        for (int times = 1; times <= 81; times++) {
            x.setNumber(2, 0, times);
        }
        check.due("no more than 500 are kept", x.readings(), 500);
        check.due("all are paid", x.budget(1), 10100 - 12 - 81 * 12);
        check.due("all are earned", x.earned(0), 6 + 81 * 6);
        check.due("all are caused", x.caused(2), 81 * 12);
        check.due("all are counted", x.timesRead(11, 12), 82);
        check.due("all are counted", x.readOf(2), 6 + 81 * 6);
        check.due("the last that is kept", x.reading(499), 20912);
        check.refused("the first that is not", x, IndexOutOfBoundsException.class, () -> x.reading(500));
        fillsOneByOne(check);
    }

    private static void fillsOneByOne(Check check) {
        MeteredSheets x = new MeteredSheets();
        x.setPrice(0, 0);
        for (int times = 1; times <= 498; times++) {
            x.setTimes(0, 6, 0, 1);
        }
        check.due("readings", x.readings(), 498);
        x.setTimes(3, 6, 0, 1);
        check.due("readings", x.readings(), 499);
        x.setSum(4, 7, 0, 1, 0);
        check.due("the first of two is kept", x.readings(), 500);
        check.due("the one before it", x.reading(498), 30600);
        check.due("the first of two", x.reading(499), 40700);
        check.due("the second of two is paid", x.timesRead(7, 1), 1);
    }
}
