public final class Promise18ReadOfTest {
    private static final Check CHECK = new Check("promise 18");

    public static void main(String[] args) {
        answersForAllSheets();
        refusesOtherSheets();
        countsReadingsAndNotTheirCost();
        nothingIsReadWithoutBudget();
        readingsThatAreNotKeptCount();
        CHECK.end();
    }

    private static void answersForAllSheets() {
        for (int reader = 0; reader < 24; reader++) {
            for (int read = 0; read < 24; read++) {
                if (reader != read) {
                    counts(reader, read);
                }
            }
        }
    }

    private static void counts(int reader, int read) {
        Run x = Sheets.withOneReading(reader, read);
        for (int sheet = 0; sheet <= 3; sheet++) {
            int due = Sheets.isReading(reader, read) && sheet == Sheets.of(read) ? 1 : 0;
            CHECK.due("readOf sheet " + sheet + " after " + reader + " has read " + read, x.readOf(sheet), due);
        }
    }

    private static void refusesOtherSheets() {
        Run x = new Run();
        x.setTimes(0, 6, 0, 1);
        for (int sheet : Check.outside(0, 3)) {
            CHECK.illegal("readOf sheet " + sheet, x, () -> x.readOf(sheet));
        }
    }

    private static void countsReadingsAndNotTheirCost() {
        Run x = new Run();
        x.setSum(0, 23, 17, 16, 0);
        CHECK.due("two at once", x.readOf(2), 2);
        x.setGreater(0, 0, 23, 17);
        CHECK.due("by another sheet", x.readOf(2), 3);
        CHECK.due("of another sheet", x.readOf(3), 1);
        x.setPrice(2, 7);
        x.setTimes(0, 6, 17, 1);
        CHECK.due("at another price", x.readOf(2), 4);
        x.setPrice(2, 0);
        x.setTimes(0, 6, 17, 1);
        CHECK.due("at the price 0", x.readOf(2), 5);
        x.setSum(0, 6, 17, 17, 1);
        CHECK.due("of one cell twice", x.readOf(2), 6);
        x.setTimes(0, 12, 17, 1);
        CHECK.due("by the own sheet", x.readOf(2), 6);
        CHECK.due("of a sheet that nobody reads", x.readOf(1), 0);
    }

    private static void nothingIsReadWithoutBudget() {
        Run x = new Run();
        x.setPrice(2, 51);
        x.setPrice(3, 50);
        x.setSum(1, 2, 12, 18, 1);
        CHECK.due("the first, with less by one", x.readOf(2), 0);
        CHECK.due("the second, with less by one", x.readOf(3), 0);
        x.grant(0, 1);
        x.refresh(0);
        CHECK.due("the first, with just enough", x.readOf(2), 1);
        CHECK.due("the second, with just enough", x.readOf(3), 1);
    }

    private static void readingsThatAreNotKeptCount() {
        Run x = Kept.of(499);
        CHECK.due("499 readings", x.readOf(0), 499);
        x.setSum(0, 11, 1, 2, 0);
        CHECK.due("501 readings", x.readOf(0), 501);
        x.setTimes(0, 11, 1, 2);
        CHECK.due("502 readings", x.readOf(0), 502);
    }
}
