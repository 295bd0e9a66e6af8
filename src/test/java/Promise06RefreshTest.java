public final class Promise06RefreshTest {
    private static final Check CHECK = new Check("promise 6");

    public static void main(String[] args) {
        takesAllUsers();
        refusesOtherUsers();
        computesNothingWithoutMarks();
        computesAllThatAreMarked();
        countsThoseThatCouldNotBeComputed();
        goesOnFromOtherValues();
        sameValueGoesNoFurther();
        computesACellOnce();
        marksWhatItCanNotPay();
        paysInTheOrderOfAllCells();
        CHECK.end();
    }

    /** Cell 6 is marked, as its sheet lacks one, and cell 7 reads it. */
    private static Run withOneMarked() {
        Run x = new Run();
        x.setPrice(0, 50);
        x.setTimes(0, 6, 0, 2);
        x.setTimes(0, 7, 6, 3);
        x.setPrice(0, 51);
        x.setNumber(0, 0, 5);
        return x;
    }

    private static void takesAllUsers() {
        for (int user = 0; user <= 4; user++) {
            Run x = withOneMarked();
            x.grant(1, 1);
            CHECK.due("a refresh by user " + user, x.refresh(user), 2);
            CHECK.due("is traced to the user", x.reading(1), 10000 * user + 600);
            CHECK.due("is billed to the user", x.caused(user), user == 0 ? 101 : 51);
        }
    }

    private static void refusesOtherUsers() {
        Run x = withOneMarked();
        x.grant(1, 1);
        for (int user : Check.outside(0, 4)) {
            CHECK.illegal("refresh by user " + user, x, () -> x.refresh(user));
        }
    }

    private static void computesNothingWithoutMarks() {
        Run x = new Run();
        CHECK.due("a refresh of a new object", x.refresh(0), 0);
        x.setNumber(0, 0, 5);
        x.setTimes(0, 6, 0, 1);
        String before = State.of(x);
        CHECK.due("a refresh without marks", x.refresh(1), 0);
        CHECK.due("the state after a refresh without marks", State.of(x), before);
    }

    private static void computesAllThatAreMarked() {
        Run x = new Run();
        for (int sheet = 0; sheet < 4; sheet++) {
            x.setPrice(sheet, 100);
        }
        // One cell of each sheet uses its budget up, and all cells but 23 come to be marked.
        x.setTimes(0, 0, 23, 1);
        x.setTimes(0, 6, 0, 1);
        x.setTimes(0, 12, 0, 1);
        x.setTimes(0, 18, 0, 1);
        for (int cell = 0; cell <= 5; cell++) {
            x.setTimes(0, cell, 23, 1);
        }
        for (int cell = 6; cell <= 22; cell++) {
            x.setTimes(0, cell, 0, 1);
        }
        x.setNumber(0, 23, 5);
        int marked = 0;
        for (int cell = 0; cell <= 23; cell++) {
            marked += x.isMarked(cell) ? 1 : 0;
        }
        CHECK.due("marked cells", marked, 23);
        CHECK.due("a refresh that can pay none", x.refresh(0), 23);
        CHECK.due("nothing was read", x.readings(), 4);
        for (int sheet = 0; sheet < 4; sheet++) {
            x.grant(sheet, 600);
        }
        CHECK.due("a refresh that can pay all", x.refresh(0), 23);
        CHECK.due("all were read", x.readings(), 27);
        for (int cell = 0; cell <= 23; cell++) {
            CHECK.due("mark of cell " + cell, x.isMarked(cell), false);
            CHECK.due("value of cell " + cell, x.value(cell), 5);
        }
        CHECK.due("a refresh once more", x.refresh(0), 0);
    }

    private static void countsThoseThatCouldNotBeComputed() {
        Run x = withOneMarked();
        String before = State.of(x);
        CHECK.due("a refresh with a budget that is less by one", x.refresh(2), 1);
        CHECK.due("the state after it", State.of(x), before);
        x.grant(1, 1);
        CHECK.due("a refresh with a budget that is just enough", x.refresh(3), 2);
        CHECK.due("the budget is used up", x.budget(1), 0);
        CHECK.due("not marked any more", x.isMarked(6), false);
        CHECK.due("value then", x.value(6), 10);
        CHECK.due("the user of the change before caused no more", x.caused(0), 50);
    }

    private static void goesOnFromOtherValues() {
        Run x = withOneMarked();
        x.setTimes(0, 12, 7, 1);
        x.setSum(0, 1, 12, 7, 0);
        x.grant(1, 100);
        CHECK.due("a refresh that goes on over three more", x.refresh(0), 4);
        CHECK.due("the first behind it", x.value(7), 30);
        CHECK.due("the last behind it", x.value(1), 60);
        CHECK.due("a refresh once more", x.refresh(0), 0);
    }

    private static void sameValueGoesNoFurther() {
        Run x = new Run();
        x.setPrice(0, 60);
        x.setTimes(0, 6, 0, 0);
        x.setTimes(0, 7, 6, 3);
        x.setNumber(0, 0, 5);
        x.grant(1, 100);
        CHECK.due("a refresh that gives no other value", x.refresh(0), 1);
        CHECK.due("not marked any more", x.isMarked(6), false);
    }

    private static void computesACellOnce() {
        Run x = new Run();
        x.setPrice(0, 60);
        x.setTimes(0, 6, 0, 1);
        x.setSum(0, 7, 6, 0, 0);
        x.setNumber(0, 0, 5);
        CHECK.due("both are marked", x.isMarked(6) && x.isMarked(7), true);
        x.grant(1, 80);
        CHECK.due("a marked cell behind a marked one counts once", x.refresh(0), 2);
        CHECK.due("each is read once", x.readings(), 3);
        CHECK.due("both are computed", x.value(7), 10);
    }

    private static void marksWhatItCanNotPay() {
        Run x = withOneMarked();
        x.setPrice(1, 100);
        x.setTimes(0, 12, 7, 1);
        x.setTimes(0, 13, 12, 1);
        x.grant(1, 1);
        CHECK.due("a refresh that can't pay for a cell behind", x.refresh(0), 3);
        CHECK.due("the cell behind is marked then", x.isMarked(12), true);
        CHECK.due("its value is kept", x.value(12), 0);
        CHECK.due("what reads it is not marked", x.isMarked(13), false);
        CHECK.due("a refresh once more tries that one alone", x.refresh(0), 1);
    }

    /** The order of the sheet is 7, 8, 6, as 6 waits for 8. */
    private static void paysInTheOrderOfAllCells() {
        Run x = new Run();
        x.setPrice(0, 100);
        x.setTimes(0, 9, 0, 1);
        x.setSum(0, 6, 8, 1, 0);
        x.setTimes(0, 7, 0, 1);
        x.setTimes(0, 8, 0, 1);
        x.setNumber(0, 9, 0);
        CHECK.due("three are marked", x.isMarked(6) && x.isMarked(7) && x.isMarked(8), true);
        x.grant(1, 200);
        CHECK.due("a refresh that can pay for two", x.refresh(0), 3);
        CHECK.due("the first that is paid", x.reading(1), 700);
        CHECK.due("the second that is paid", x.reading(2), 800);
        CHECK.due("the one that waits is left", x.isMarked(6), true);
        CHECK.due("the others are not", x.isMarked(7) || x.isMarked(8), false);
    }
}
