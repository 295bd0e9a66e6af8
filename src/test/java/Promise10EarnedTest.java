public final class Promise10EarnedTest {
    private static final Check CHECK = new Check("promise 10");

    public static void main(String[] args) {
        refusesOtherSheets();
        theSheetOfEachCellThatIsReadEarns();
        bothSheetsEarn();
        aPriceChangesNothingThatWasEarned();
        nothingIsEarnedWithoutBudget();
        readingsThatAreNotKeptEarnToo();
        CHECK.end();
    }

    private static void refusesOtherSheets() {
        Run x = new Run();
        x.setTimes(0, 6, 0, 1);
        for (int sheet : Check.outside(0, 3)) {
            CHECK.illegal("earned of sheet " + sheet, x, () -> x.earned(sheet));
        }
    }

    private static void theSheetOfEachCellThatIsReadEarns() {
        for (int reader = 0; reader < 24; reader++) {
            for (int read = 0; read < 24; read++) {
                if (reader != read) {
                    earns(reader, read);
                }
            }
        }
    }

    private static void earns(int reader, int read) {
        Run x = Sheets.withOneReading(reader, read);
        for (int sheet = 0; sheet <= 3; sheet++) {
            int due = sheet == Sheets.of(read) ? Sheets.costOf(reader, read) : 0;
            CHECK.due("earned of sheet " + sheet + " after " + reader + " has read " + read, x.earned(sheet), due);
        }
    }

    private static void bothSheetsEarn() {
        Run x = new Run();
        x.setPrice(0, 10);
        x.setPrice(2, 30);
        x.setSum(0, 6, 0, 12, 0);
        CHECK.due("what the first has earned", x.earned(0), 10);
        CHECK.due("what the second has earned", x.earned(2), 30);
        CHECK.due("what the reader has earned", x.earned(1), 0);
        x.setGreater(0, 18, 0, 1);
        CHECK.due("earned by two cells of one sheet", x.earned(0), 30);
        x.setSum(0, 19, 0, 0, 0);
        CHECK.due("earned once by one cell twice", x.earned(0), 40);
    }

    private static void aPriceChangesNothingThatWasEarned() {
        Run x = new Run();
        x.setPrice(0, 10);
        x.setTimes(0, 6, 0, 1);
        x.setPrice(0, 3);
        CHECK.due("earned at the price of then", x.earned(0), 10);
        x.setNumber(0, 0, 4);
        CHECK.due("earned at the price of now", x.earned(0), 13);
        x.setPrice(0, 0);
        x.setNumber(0, 0, 5);
        CHECK.due("earned at no price", x.earned(0), 13);
    }

    private static void nothingIsEarnedWithoutBudget() {
        Run x = new Run();
        x.setPrice(0, 100);
        x.setTimes(0, 6, 0, 1);
        x.setNumber(0, 0, 5);
        CHECK.due("earned of a budget that is used up", x.earned(0), 100);
    }

    private static void readingsThatAreNotKeptEarnToo() {
        Run x = Kept.of(499);
        int before = x.earned(0);
        x.setPrice(0, 7);
        x.setSum(0, 7, 0, 1, 0);
        CHECK.due("the 500th and the 501st reading", x.earned(0), before + 14);
        x.setTimes(0, 8, 0, 1);
        CHECK.due("the 502nd reading", x.earned(0), before + 21);
    }
}
