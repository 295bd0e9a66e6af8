public final class Promise07SetPriceTest {
    public static void main(String[] args) {
        Check check = new Check();
        MeteredSheets x = new MeteredSheets();
        for (int sheet = 0; sheet < 4; sheet++) {
            check.due("the first price", x.setPrice(sheet, 100), 1);
            check.due("the price before", x.setPrice(sheet, 0), 100);
            check.due("the price before", x.setPrice(sheet, 20 + sheet), 0);
        }
        x.setTimes(0, 6, 0, 1);
        x.setTimes(0, 7, 12, 1);
        x.setTimes(0, 8, 18, 1);
        x.setTimes(0, 12, 6, 1);
        check.due("paid the prices of the sheets that are read", x.budget(1), 100 - 20 - 22 - 23);
        check.due("paid the price of the sheet that is read", x.budget(2), 100 - 21);
        check.due("a price changes no value", x.refresh(0), 0);
        for (int sheet : new int[] {-1, 4, Integer.MIN_VALUE, Integer.MAX_VALUE}) {
            check.illegal("setPrice of sheet " + sheet, x, () -> x.setPrice(sheet, 1));
        }
        for (int price : new int[] {-1, 101, Integer.MIN_VALUE, Integer.MAX_VALUE}) {
            check.illegal("setPrice of " + price, x, () -> x.setPrice(0, price));
        }
        check.due("the price is as before a refused one", x.setPrice(0, 1), 20);
        withoutPrice(check);
        check.end();
    }

    private static void withoutPrice(Check check) {
        MeteredSheets x = new MeteredSheets();
        x.setPrice(0, 100);
        x.setTimes(0, 6, 0, 1);
        check.due("the budget is used up", x.budget(1), 0);
        x.setPrice(0, 0);
        check.due("a change without price", x.setNumber(0, 0, 5), 2);
        check.due("is computed", x.value(6), 5);
        check.due("and is a reading", x.readings(), 2);
        check.due("of that cell", x.timesRead(6, 0), 2);
        check.due("of that sheet", x.readOf(0), 2);
        check.due("that earns nothing", x.earned(0), 100);
    }
}
