public final class Promise09BudgetTest {
    private static final Check CHECK = new Check("promise 9");

    public static void main(String[] args) {
        refusesOtherSheets();
        theSheetOfEachReaderPays();
        theOwnSheetIsFree();
        twoCellsArePaidBoth();
        oneCellTwiceIsPaidOnce();
        aBudgetThatIsJustEnough();
        aBudgetThatIsLessByOne();
        aBudgetOfNothing();
        whatIsEarnedIsNoBudget();
        CHECK.end();
    }

    private static void refusesOtherSheets() {
        Run x = new Run();
        x.setTimes(0, 6, 0, 1);
        for (int sheet : Check.outside(0, 3)) {
            CHECK.illegal("budget of sheet " + sheet, x, () -> x.budget(sheet));
        }
    }

    private static void theSheetOfEachReaderPays() {
        for (int reader = 0; reader < 24; reader++) {
            for (int read = 0; read < 24; read++) {
                if (reader != read) {
                    pays(reader, read);
                }
            }
        }
    }

    private static void pays(int reader, int read) {
        Run x = Sheets.withOneReading(reader, read);
        for (int sheet = 0; sheet <= 3; sheet++) {
            int paid = sheet == Sheets.of(reader) ? Sheets.costOf(reader, read) : 0;
            String name = "budget of sheet " + sheet + " after " + reader + " has read " + read;
            CHECK.due(name, x.budget(sheet), 100 - paid);
        }
    }

    private static void theOwnSheetIsFree() {
        Run x = new Run();
        x.setPrice(0, 100);
        x.setTimes(0, 6, 0, 1);
        x.setPrice(1, 100);
        x.setSum(0, 11, 6, 7, 0);
        CHECK.due("a cell over its own sheet without budget is computed", x.isMarked(11), false);
        x.setSum(0, 10, 6, 0, 0);
        CHECK.due("a cell over its own sheet and another is not", x.isMarked(10), true);
        x.grant(1, 100);
        x.refresh(0);
        CHECK.due("it pays for the other alone", x.budget(1), 0);
        CHECK.due("and is computed", x.isMarked(10), false);
    }

    private static void twoCellsArePaidBoth() {
        Run x = new Run();
        x.setPrice(0, 10);
        x.setPrice(2, 30);
        x.setSum(0, 6, 0, 12, 0);
        CHECK.due("two sheets", x.budget(1), 60);
        x.setGreater(0, 7, 0, 1);
        CHECK.due("one sheet twice", x.budget(1), 40);
        CHECK.due("the budget of a sheet that is read", x.budget(0), 100);
        CHECK.due("the budget of another one", x.budget(2), 100);
    }

    private static void oneCellTwiceIsPaidOnce() {
        Run x = new Run();
        x.setPrice(0, 60);
        x.setSum(0, 6, 0, 0, 0);
        CHECK.due("a sum of one cell twice", x.budget(1), 40);
        x.setGreater(0, 12, 0, 0);
        CHECK.due("the greater one of one cell twice", x.budget(2), 40);
    }

    private static void aBudgetThatIsJustEnough() {
        Run x = new Run();
        x.setPrice(0, 100);
        x.setTimes(0, 6, 0, 1);
        CHECK.due("all is spent for one", x.budget(1), 0);
        CHECK.due("and the cell is computed", x.timesRead(6, 0), 1);
        x.setPrice(0, 40);
        x.setPrice(1, 60);
        x.setSum(0, 12, 0, 6, 5);
        CHECK.due("all is spent for two", x.budget(2), 0);
        CHECK.due("and the cell is computed", x.value(12), 5);
        CHECK.due("and not marked", x.isMarked(12), false);
    }

    private static void aBudgetThatIsLessByOne() {
        Run x = new Run();
        x.setPrice(0, 51);
        x.setPrice(1, 50);
        x.setSum(3, 12, 0, 6, 5);
        CHECK.due("less by one for two, though enough for each", x.isMarked(12), true);
        CHECK.due("nothing is taken", x.budget(2), 100);
        CHECK.due("nothing is computed", x.value(12), 0);
        CHECK.due("the first is not read", x.timesRead(12, 0), 0);
        CHECK.due("the second is not read", x.timesRead(12, 6), 0);
        CHECK.due("the first earns nothing", x.earned(0), 0);
        CHECK.due("the second earns nothing", x.earned(1), 0);
        CHECK.due("the user caused nothing", x.caused(3), 0);
        CHECK.due("nothing is kept", x.readings(), 0);
        x.setTimes(0, 13, 0, 1);
        x.setTimes(0, 14, 1, 1);
        CHECK.due("less by two for one", x.isMarked(14), true);
        CHECK.due("nothing is taken", x.budget(2), 49);
        x.grant(2, 1);
        x.setPrice(0, 50);
        x.refresh(0);
        CHECK.due("just enough for the first that is marked in the order", x.isMarked(14), false);
        CHECK.due("the other is left", x.isMarked(12), true);
        CHECK.due("and it is used up", x.budget(2), 0);
    }

    private static void aBudgetOfNothing() {
        Run x = new Run();
        x.setPrice(0, 100);
        x.setTimes(0, 6, 0, 1);
        x.setPrice(0, 1);
        x.setTimes(0, 7, 0, 1);
        CHECK.due("the least price is too dear", x.isMarked(7), true);
        CHECK.due("no budget stays no budget", x.budget(1), 0);
        x.setPrice(0, 0);
        x.setSum(0, 8, 0, 1, 9);
        CHECK.due("the price 0 is not", x.value(8), 9);
        CHECK.due("no budget stays no budget", x.budget(1), 0);
    }

    private static void whatIsEarnedIsNoBudget() {
        Run x = new Run();
        x.setPrice(1, 100);
        x.setTimes(0, 0, 6, 1);
        CHECK.due("earned", x.earned(1), 100);
        CHECK.due("budget of the sheet that earns", x.budget(1), 100);
    }
}
