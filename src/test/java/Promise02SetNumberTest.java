public final class Promise02SetNumberTest {
    private static final Check CHECK = new Check("promise 2");

    public static void main(String[] args) {
        takesAllWithinTheRanges();
        refusesAllOutsideTheRanges();
        countsThisOneAlways();
        countsThoseThatReadWhatChanged();
        countsThoseThatCouldNotBeComputed();
        goesNoFurtherThanValuesChange();
        aValueAtTheBoundIsNoOtherValue();
        aCellThatIsNotComputedChangesNothing();
        aMarkedCellWaitsForAChange();
        replacesAFormula();
        readsNothing();
        CHECK.end();
    }

    private static void takesAllWithinTheRanges() {
        Run x = new Run();
        for (int user = 0; user <= 4; user++) {
            CHECK.due("setNumber by user " + user, x.setNumber(user, 0, user + 1), 1);
            CHECK.due("value then", x.value(0), user + 1);
        }
        for (int cell = 0; cell <= 23; cell++) {
            CHECK.due("setNumber of cell " + cell, x.setNumber(0, cell, 100 + cell), 1);
        }
        for (int cell = 0; cell <= 23; cell++) {
            CHECK.due("value of cell " + cell + " then", x.value(cell), 100 + cell);
        }
        for (int value : new int[] {-1000000, -999999, -1, 0, 1, 999999, 1000000}) {
            CHECK.due("setNumber of value " + value, x.setNumber(0, 23, value), 1);
            CHECK.due("value then", x.value(23), value);
            CHECK.due("valueAnew then", x.valueAnew(23), value);
        }
    }

    private static void refusesAllOutsideTheRanges() {
        Run x = new Run();
        x.setNumber(0, 0, 3);
        x.setTimes(0, 6, 0, 2);
        for (int user : Check.outside(0, 4)) {
            CHECK.illegal("setNumber by user " + user, x, () -> x.setNumber(user, 0, 1));
        }
        for (int cell : Check.outside(0, 23)) {
            CHECK.illegal("setNumber of cell " + cell, x, () -> x.setNumber(0, cell, 1));
        }
        for (int value : Check.outside(-1000000, 1000000)) {
            CHECK.illegal("setNumber of value " + value, x, () -> x.setNumber(0, 0, value));
            CHECK.illegal("setNumber in place of a formula of value " + value, x, () -> x.setNumber(0, 6, value));
        }
        CHECK.illegal("setNumber of nothing within", x, () -> x.setNumber(-1, 24, 1000001));
    }

    private static void countsThisOneAlways() {
        Run x = new Run();
        CHECK.due("setNumber of the value that the cell has", x.setNumber(0, 0, 0), 1);
        CHECK.due("setNumber of another one", x.setNumber(0, 0, 9), 1);
        CHECK.due("and of that again", x.setNumber(0, 0, 9), 1);
    }

    private static void countsThoseThatReadWhatChanged() {
        Run x = new Run();
        x.setGreater(0, 1, 0, 2);
        x.setTimes(0, 3, 1, 5);
        x.setSum(0, 4, 1, 3, 0);
        x.setSum(0, 5, 6, 7, 0);
        CHECK.due("three over it, one of them over two of them, and one beside", x.setNumber(0, 0, 10), 4);
        CHECK.due("value of the first", x.value(1), 10);
        CHECK.due("value of the second", x.value(3), 50);
        CHECK.due("value of the third", x.value(4), 60);
        for (int cell = 1; cell < 24; cell++) {
            x.setTimes(0, cell, 0, cell);
        }
        CHECK.due("all other cells", x.setNumber(0, 0, 2), 24);
        CHECK.due("value of the last", x.value(23), 46);
    }

    private static void countsThoseThatCouldNotBeComputed() {
        Run x = new Run();
        x.setPrice(0, 100);
        x.setTimes(0, 6, 0, 1);
        x.setTimes(0, 7, 0, 1);
        x.setTimes(0, 12, 0, 1);
        CHECK.due("one for want of budget before, and two now", x.setNumber(0, 0, 5), 4);
        CHECK.due("all are marked", x.isMarked(6) && x.isMarked(7) && x.isMarked(12), true);
        x.grant(2, 100);
        CHECK.due("two that could not be computed, and one that could", x.setNumber(0, 0, 6), 4);
        CHECK.due("value of the one", x.value(12), 6);
        CHECK.due("value of the other two", x.value(6) + x.value(7), 0);
    }

    private static void goesNoFurtherThanValuesChange() {
        Run x = new Run();
        x.setGreater(0, 1, 0, 2);
        x.setTimes(0, 3, 1, 5);
        x.setNumber(0, 2, 10);
        CHECK.due("the greater one stays as it is", x.setNumber(0, 0, 10), 2);
        CHECK.due("the greater one changes", x.setNumber(0, 0, 11), 3);
        CHECK.due("the value that stands", x.setNumber(0, 0, 11), 1);
        x.setSum(0, 4, 1, 3, 0);
        CHECK.due("a value changes and goes back in two changes", x.setNumber(0, 0, 12) + x.setNumber(0, 0, 11), 8);
    }

    private static void aValueAtTheBoundIsNoOtherValue() {
        Run x = new Run();
        x.setNumber(0, 0, 10000);
        x.setTimes(0, 1, 0, 100);
        x.setTimes(0, 2, 1, -1);
        CHECK.due("just at the bound, then beyond it", x.setNumber(0, 0, 10001), 2);
        CHECK.due("farther beyond it", x.setNumber(0, 0, 1000000), 2);
        CHECK.due("just below the bound", x.setNumber(0, 0, 9999), 3);
        CHECK.due("value of the cell behind", x.value(2), -999900);
    }

    private static void aCellThatIsNotComputedChangesNothing() {
        Run x = new Run();
        x.setPrice(0, 51);
        x.setTimes(0, 6, 0, 1);
        x.setTimes(0, 7, 6, 1);
        x.setTimes(0, 12, 7, 1);
        CHECK.due("one could not be computed, and none behind it is", x.setNumber(0, 0, 5), 2);
        CHECK.due("the one is marked", x.isMarked(6), true);
        CHECK.due("those behind it are not", x.isMarked(7) || x.isMarked(12), false);
        CHECK.due("and were not read", x.timesRead(12, 7), 1);
    }

    private static void aMarkedCellWaitsForAChange() {
        Run x = new Run();
        x.setPrice(0, 100);
        x.setTimes(0, 7, 0, 1);
        x.setTimes(0, 6, 0, 1);
        x.grant(1, 10000);
        CHECK.due("a change beside a marked cell", x.setNumber(0, 1, 5), 1);
        CHECK.due("a number as before below it", x.setNumber(0, 0, 0), 1);
        CHECK.due("marked still", x.isMarked(6), true);
        CHECK.due("a change below it", x.setNumber(0, 0, 5), 3);
        CHECK.due("not marked any more", x.isMarked(6), false);
    }

    private static void replacesAFormula() {
        Run x = new Run();
        x.setTimes(0, 1, 0, 2);
        x.setNumber(0, 0, 4);
        CHECK.due("setNumber in place of a formula", x.setNumber(0, 1, 8), 1);
        CHECK.due("setNumber of what it read", x.setNumber(0, 0, 5), 1);
        CHECK.due("the value is the number", x.value(1), 8);
        CHECK.due("the other way round is no loop any more", x.setTimes(0, 0, 1, 3), 1);
    }

    private static void readsNothing() {
        Run x = new Run();
        x.setPrice(0, 100);
        x.setTimes(0, 6, 0, 1);
        x.setTimes(0, 7, 0, 2);
        CHECK.due("budget that is used up", x.budget(1), 0);
        CHECK.due("a marked cell", x.isMarked(7), true);
        CHECK.due("setNumber without budget", x.setNumber(1, 7, 3), 1);
        CHECK.due("value then", x.value(7), 3);
        CHECK.due("not marked any more", x.isMarked(7), false);
        CHECK.due("a number is no reading", x.readings(), 1);
        CHECK.due("and costs nothing", x.caused(1), 0);
    }
}
