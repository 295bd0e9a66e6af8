public final class Promise01NewObjectTest {
    private static final Check CHECK = new Check("promise 1");

    public static void main(String[] args) {
        allCellsAreTheNumberZero();
        sheetsHaveTheirFirstPriceAndBudget();
        nothingWasRead();
        objectsShareNothing();
        the512thCallIsAnswered();
        CHECK.end();
    }

    private static void allCellsAreTheNumberZero() {
        Run x = new Run();
        for (int cell = 0; cell < 24; cell++) {
            CHECK.due("value of new cell " + cell, x.value(cell), 0);
            CHECK.due("isMarked of new cell " + cell, x.isMarked(cell), false);
            CHECK.due("valueAnew of new cell " + cell, x.valueAnew(cell), 0);
        }
        for (int user = 0; user < 5; user++) {
            CHECK.due("refresh of a new object by user " + user, x.refresh(user), 0);
        }
        for (int cell = 0; cell < 24; cell++) {
            CHECK.due("a change of new cell " + cell + ", that no cell reads", x.setNumber(0, cell, 1), 1);
        }
    }

    private static void sheetsHaveTheirFirstPriceAndBudget() {
        Run x = new Run();
        for (int sheet = 0; sheet < 4; sheet++) {
            CHECK.due("budget of new sheet " + sheet, x.budget(sheet), 100);
            CHECK.due("earned of new sheet " + sheet, x.earned(sheet), 0);
            CHECK.due("price of new sheet " + sheet, x.setPrice(sheet, 1), 1);
        }
        for (int user = 0; user < 5; user++) {
            CHECK.due("caused by user " + user + " of a new object", x.caused(user), 0);
        }
    }

    private static void nothingWasRead() {
        Run x = new Run();
        CHECK.due("readings of a new object", x.readings(), 0);
        CHECK.none("reading(0) of a new object", x, () -> x.reading(0));
        for (int sheet = 0; sheet < 4; sheet++) {
            CHECK.due("readOf new sheet " + sheet, x.readOf(sheet), 0);
        }
        for (int reader = 0; reader < 24; reader++) {
            Run y = new Run();
            for (int read = 0; read < 24; read++) {
                CHECK.due("timesRead(" + reader + ", " + read + ") of a new object", y.timesRead(reader, read), 0);
            }
        }
    }

    private static void objectsShareNothing() {
        String before = State.of(new Run());
        Run one = new Run();
        MeteredSheets other = new MeteredSheets();
        one.setNumber(0, 0, 5);
        one.setTimes(1, 6, 0, 2);
        one.grant(2, 7);
        one.setPrice(3, 9);
        CHECK.due("value of a cell that another object has changed", other.value(0), 0);
        CHECK.due("value of a formula of another object", other.value(6), 0);
        CHECK.due("budget that another object was granted", other.budget(2), 100);
        CHECK.due("price that another object has set", other.setPrice(3, 1), 1);
        CHECK.due("readings of another object", other.readings(), 0);
        CHECK.due("the state of an object that is made later", State.of(new Run()), before);
        other.setNumber(0, 1, 6);
        other.setTimes(0, 0, 1, 1);
        new MeteredSheets();
        CHECK.due("valueAnew of a cell that waits for a later one", other.valueAnew(0), 6);
    }

    private static void the512thCallIsAnswered() {
        last("setNumber", x -> x.setNumber(4, 0, 7), 2);
        last("setSum", x -> x.setSum(4, 7, 0, 6, 1), 1);
        last("setGreater", x -> x.setGreater(4, 7, 0, 6), 1);
        last("setTimes", x -> x.setTimes(4, 7, 0, 6), 1);
        last("refresh", x -> x.refresh(4), 0);
        last("setPrice", x -> x.setPrice(0, 100), 1);
        last("grant", x -> x.grant(1, 1), 10100 - 510 + 1);
        last("budget", x -> x.budget(1), 10100 - 510);
        last("earned", x -> x.earned(0), 510);
        last("caused", x -> x.caused(1), 510);
        last("value", x -> x.value(6), 1018);
        last("isMarked", x -> x.isMarked(6) ? 1 : 0, 0);
        last("valueAnew", x -> x.valueAnew(6), 1018);
        last("readings", x -> x.readings(), 500);
        last("reading", x -> x.reading(499), 10600);
        last("timesRead", x -> x.timesRead(6, 0), 510);
        last("readOf", x -> x.readOf(0), 510);
    }

    private static void last(String name, Workbook.Call call, int want) {
        Run x = new Run();
        x.grant(1, 10000);
        x.setTimes(1, 6, 0, 2);
        for (int times = 1; times <= 509; times++) {
            x.setNumber(1, 0, times);
        }
        CHECK.due("calls that are left before the last " + name, x.room(), 1);
        CHECK.due("the 512th call, " + name, Check.outcome(call, x), "answers " + want);
    }
}
