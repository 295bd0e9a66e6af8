public final class Promise15ReadingsTest {
    private static final Check CHECK = new Check("promise 15");

    public static void main(String[] args) {
        onlyOtherSheetsAreReadings();
        oneCellTwiceIsOneReading();
        nothingIsReadWithoutBudget();
        keepsTheFirst500();
        keepsTheFirstOfTwo();
        keepsNoneOfAChangeBeyond500();
        CHECK.end();
    }

    private static void onlyOtherSheetsAreReadings() {
        Run x = new Run();
        CHECK.due("none at first", x.readings(), 0);
        x.setSum(0, 1, 0, 2, 0);
        CHECK.due("the own sheet is no reading", x.readings(), 0);
        x.setTimes(0, 6, 5, 1);
        CHECK.due("the first one", x.readings(), 1);
        x.setSum(0, 7, 0, 2, 0);
        CHECK.due("two readings", x.readings(), 3);
        x.setSum(0, 8, 0, 6, 0);
        CHECK.due("one in the other sheet", x.readings(), 4);
        x.setNumber(0, 8, 1);
        CHECK.due("a number reads nothing", x.readings(), 4);
    }

    private static void oneCellTwiceIsOneReading() {
        Run x = new Run();
        x.setSum(0, 8, 0, 0, 0);
        CHECK.due("in a sum", x.readings(), 1);
        x.setGreater(0, 9, 2, 2);
        CHECK.due("in the greater one", x.readings(), 2);
        x.setNumber(0, 0, 5);
        CHECK.due("in a change", x.readings(), 3);
    }

    private static void nothingIsReadWithoutBudget() {
        Run x = new Run();
        x.setPrice(0, 51);
        x.setPrice(2, 50);
        x.setSum(0, 10, 0, 12, 0);
        CHECK.due("less by one", x.readings(), 0);
        x.setPrice(0, 50);
        x.refresh(0);
        CHECK.due("just enough", x.readings(), 2);
    }

    private static void keepsTheFirst500() {
        Run x = Kept.of(498);
        CHECK.due("498 readings", x.readings(), 498);
        x.setTimes(3, 7, 0, 1);
        CHECK.due("499 readings", x.readings(), 499);
        CHECK.none("the 500th before it is read", x, () -> x.reading(499));
        x.setTimes(4, 8, 0, 1);
        CHECK.due("500 readings", x.readings(), 500);
        x.setTimes(2, 9, 0, 1);
        CHECK.due("501 readings", x.readings(), 500);
        x.setNumber(2, 0, -5);
        CHECK.due("511 readings", x.readings(), 500);
        CHECK.due("the 499th", x.reading(498), 30700);
        CHECK.due("the 500th", x.reading(499), 40800);
        CHECK.due("the first", x.reading(0), 10600);
        CHECK.none("the 501st", x, () -> x.reading(500));
    }

    private static void keepsTheFirstOfTwo() {
        Run x = Kept.of(499);
        int budget = x.budget(1);
        x.setSum(4, 7, 5, 3, 0);
        CHECK.due("the first of two is kept", x.readings(), 500);
        CHECK.due("the first of two", x.reading(499), 40705);
        CHECK.none("the second of two", x, () -> x.reading(500));
        CHECK.due("both are counted: the first", x.timesRead(7, 5), 1);
        CHECK.due("both are counted: the second", x.timesRead(7, 3), 1);
        CHECK.due("both are paid", x.budget(1), budget - 2);
        CHECK.due("both are caused", x.caused(4), 2);
    }

    private static void keepsNoneOfAChangeBeyond500() {
        Run x = Kept.of(500);
        int budgets = x.budget(1) + x.budget(2);
        int earned = x.earned(0);
        int readOf = x.readOf(0);
        int timesRead = x.timesRead(15, 0);
        CHECK.due("a change beyond 500", x.setNumber(3, 0, -5), 11);
        CHECK.due("its values", x.value(15), -5);
        CHECK.due("none is kept", x.readings(), 500);
        CHECK.due("all are paid", x.budget(1) + x.budget(2), budgets - 10);
        CHECK.due("all are earned", x.earned(0), earned + 10);
        CHECK.due("all are caused", x.caused(3), 10);
        CHECK.due("all are counted for the sheet", x.readOf(0), readOf + 10);
        CHECK.due("all are counted for the cell", x.timesRead(15, 0), timesRead + 1);
        x.setPrice(0, 100);
        x.setTimes(3, 23, 0, 1);
        x.setTimes(3, 23, 1, 1);
        CHECK.due("beyond 500 a budget is used up too", x.isMarked(23), true);
    }
}
