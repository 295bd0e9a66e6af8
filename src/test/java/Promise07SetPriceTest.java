public final class Promise07SetPriceTest {
    private static final Check CHECK = new Check("promise 7");

    public static void main(String[] args) {
        takesAllWithinTheRanges();
        refusesAllOutsideTheRanges();
        countsFromTheNextReading();
        aReadingAtThePriceZero();
        CHECK.end();
    }

    private static void takesAllWithinTheRanges() {
        Run x = new Run();
        for (int sheet = 0; sheet <= 3; sheet++) {
            CHECK.due("the first price of sheet " + sheet, x.setPrice(sheet, 100), 1);
            CHECK.due("the most", x.setPrice(sheet, 99), 100);
            CHECK.due("one less", x.setPrice(sheet, 0), 99);
            CHECK.due("the least", x.setPrice(sheet, 1), 0);
            CHECK.due("one more", x.setPrice(sheet, 20 + sheet), 1);
            CHECK.due("the same again", x.setPrice(sheet, 20 + sheet), 20 + sheet);
        }
        for (int sheet = 0; sheet <= 3; sheet++) {
            CHECK.due("the price of sheet " + sheet + " alone", x.setPrice(sheet, 0), 20 + sheet);
        }
    }

    private static void refusesAllOutsideTheRanges() {
        Run x = new Run();
        x.setPrice(0, 20);
        for (int sheet : Check.outside(0, 3)) {
            CHECK.illegal("setPrice of sheet " + sheet, x, () -> x.setPrice(sheet, 1));
        }
        for (int price : Check.outside(0, 100)) {
            CHECK.illegal("setPrice of " + price, x, () -> x.setPrice(0, price));
            CHECK.illegal("setPrice of the last sheet of " + price, x, () -> x.setPrice(3, price));
        }
        CHECK.illegal("setPrice of nothing within", x, () -> x.setPrice(4, 101));
    }

    private static void countsFromTheNextReading() {
        Run x = new Run();
        x.setTimes(2, 6, 0, 1);
        x.setPrice(0, 100);
        CHECK.due("what was paid before", x.budget(1), 99);
        CHECK.due("what was earned before", x.earned(0), 1);
        CHECK.due("what was caused before", x.caused(2), 1);
        CHECK.due("a price marks nothing", x.isMarked(6), false);
        CHECK.due("a price reads nothing", x.readings(), 1);
        CHECK.due("the next reading is too dear", x.setNumber(0, 0, 5), 2);
        CHECK.due("the cell is marked", x.isMarked(6), true);
        x.setPrice(0, 99);
        CHECK.due("a price takes no mark away", x.isMarked(6), true);
        CHECK.due("a refresh at the price that can be paid", x.refresh(0), 1);
        CHECK.due("what is left", x.budget(1), 0);
    }

    private static void aReadingAtThePriceZero() {
        Run x = new Run();
        x.setPrice(0, 100);
        x.setTimes(0, 6, 0, 1);
        CHECK.due("the budget is used up", x.budget(1), 0);
        x.setPrice(0, 0);
        CHECK.due("a change without price", x.setNumber(3, 0, 5), 2);
        CHECK.due("is computed", x.value(6), 5);
        CHECK.due("and is a reading", x.readings(), 2);
        CHECK.due("that is kept", x.reading(1), 30600);
        CHECK.due("of that cell", x.timesRead(6, 0), 2);
        CHECK.due("of that sheet", x.readOf(0), 2);
        CHECK.due("that earns nothing", x.earned(0), 100);
        CHECK.due("that costs nothing", x.caused(3), 0);
        CHECK.due("and takes nothing", x.budget(1), 0);
    }
}
