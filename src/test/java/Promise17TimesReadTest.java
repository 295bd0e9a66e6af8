public final class Promise17TimesReadTest {
    private static final Check CHECK = new Check("promise 17");

    public static void main(String[] args) {
        answersForAllCells();
        refusesOtherCells();
        countsEachReading();
        oneCellTwiceIsReadOnce();
        nothingIsReadWithoutBudget();
        readingsThatAreNotKeptCount();
        CHECK.end();
    }

    private static void answersForAllCells() {
        for (int reader = 0; reader < 24; reader++) {
            for (int read = 0; read < 24; read++) {
                if (reader != read) {
                    Run x = Sheets.withOneReading(reader, read);
                    String name = "timesRead(" + reader + ", " + read + ")";
                    CHECK.due(name, x.timesRead(reader, read), Sheets.isReading(reader, read) ? 1 : 0);
                    CHECK.due(name + " turned", x.timesRead(read, reader), 0);
                    CHECK.due(name + " of the cell by itself", x.timesRead(reader, reader), 0);
                    CHECK.due(name + " of the cell before", x.timesRead(reader, (read + 23) % 24), 0);
                    CHECK.due(name + " by the cell before", x.timesRead((reader + 23) % 24, read), 0);
                }
            }
        }
    }

    private static void refusesOtherCells() {
        Run x = new Run();
        x.setTimes(0, 6, 0, 1);
        for (int cell : Check.outside(0, 23)) {
            CHECK.illegal("timesRead by cell " + cell, x, () -> x.timesRead(cell, 0));
            CHECK.illegal("timesRead by cell " + cell + " of the last", x, () -> x.timesRead(cell, 23));
            CHECK.illegal("timesRead of cell " + cell, x, () -> x.timesRead(0, cell));
            CHECK.illegal("timesRead of cell " + cell + " by the last", x, () -> x.timesRead(23, cell));
            CHECK.illegal("timesRead by and of cell " + cell, x, () -> x.timesRead(cell, cell));
        }
        // In a row of rows these would be cells 0 and 23 of another row.
        CHECK.illegal("timesRead by the cell before with the cell behind", x, () -> x.timesRead(5, 24));
        CHECK.illegal("timesRead by the cell behind with the cell before", x, () -> x.timesRead(7, -24));
    }

    private static void countsEachReading() {
        Run x = new Run();
        x.setSum(0, 23, 17, 5, 0);
        CHECK.due("of one", x.timesRead(23, 17), 1);
        CHECK.due("of other", x.timesRead(23, 5), 1);
        x.setNumber(1, 5, 2);
        CHECK.due("after a change", x.timesRead(23, 5), 2);
        CHECK.due("both are read again", x.timesRead(23, 17), 2);
        x.setNumber(1, 5, 2);
        CHECK.due("after a number as before", x.timesRead(23, 5), 2);
        x.setNumber(1, 23, 2);
        CHECK.due("stays when the formula goes", x.timesRead(23, 17), 2);
        x.setSum(0, 22, 23, 17, 0);
        CHECK.due("by a cell beside", x.timesRead(22, 17), 1);
        CHECK.due("of a cell of the own sheet", x.timesRead(22, 23), 0);
    }

    private static void oneCellTwiceIsReadOnce() {
        Run x = new Run();
        x.setGreater(1, 0, 6, 6);
        CHECK.due("in the greater one", x.timesRead(0, 6), 1);
        x.setSum(1, 1, 6, 6, 0);
        CHECK.due("in a sum", x.timesRead(1, 6), 1);
    }

    private static void nothingIsReadWithoutBudget() {
        Run x = new Run();
        x.setPrice(2, 51);
        x.setPrice(3, 50);
        x.setSum(1, 2, 12, 18, 1);
        CHECK.due("the first, with less by one", x.timesRead(2, 12), 0);
        CHECK.due("the second, with less by one", x.timesRead(2, 18), 0);
        x.grant(0, 1);
        x.refresh(0);
        CHECK.due("the first, with just enough", x.timesRead(2, 12), 1);
        CHECK.due("the second, with just enough", x.timesRead(2, 18), 1);
    }

    private static void readingsThatAreNotKeptCount() {
        Run x = Kept.of(499);
        x.setSum(0, 11, 1, 2, 0);
        CHECK.due("the 500th", x.timesRead(11, 1), 1);
        CHECK.due("the 501st", x.timesRead(11, 2), 1);
        x.setSum(0, 11, 1, 2, 0);
        CHECK.due("the 502nd", x.timesRead(11, 1), 2);
    }
}
