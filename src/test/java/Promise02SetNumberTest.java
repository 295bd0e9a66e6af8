public final class Promise02SetNumberTest {
    public static void main(String[] args) {
        Check check = new Check();
        MeteredSheets x = new MeteredSheets();
        check.due("setNumber of the most", x.setNumber(0, 0, 1000000), 1);
        check.due("value then", x.value(0), 1000000);
        check.due("setNumber of the least", x.setNumber(4, 23, -1000000), 1);
        check.due("value then", x.value(23), -1000000);
        check.due("setNumber of the same value again", x.setNumber(4, 23, -1000000), 1);
        for (int user : new int[] {-1, 5, Integer.MIN_VALUE, Integer.MAX_VALUE}) {
            check.illegal("setNumber by user " + user, x, () -> x.setNumber(user, 0, 1));
        }
        for (int cell : new int[] {-1, 24, Integer.MIN_VALUE, Integer.MAX_VALUE}) {
            check.illegal("setNumber of cell " + cell, x, () -> x.setNumber(0, cell, 1));
        }
        for (int value : new int[] {-1000001, 1000001, Integer.MIN_VALUE, Integer.MAX_VALUE}) {
            check.illegal("setNumber of value " + value, x, () -> x.setNumber(0, 0, value));
        }
        countsOnlyWhatIsDue(check);
        replacesAFormula(check);
        needsNoBudget(check);
        check.end();
    }

    private static void countsOnlyWhatIsDue(Check check) {
        MeteredSheets x = new MeteredSheets();
        x.setGreater(0, 1, 0, 2);
        x.setTimes(0, 3, 1, 5);
        x.setNumber(0, 2, 10);
        check.due("setNumber that leaves the greater one as it is", x.setNumber(0, 0, 10), 2);
        check.due("setNumber that changes all", x.setNumber(0, 0, 11), 3);
        check.due("value over another", x.value(3), 55);
        check.due("setNumber of the value that stands", x.setNumber(0, 0, 11), 1);
    }

    private static void replacesAFormula(Check check) {
        MeteredSheets x = new MeteredSheets();
        x.setTimes(0, 1, 0, 2);
        x.setNumber(0, 0, 4);
        check.due("setNumber in place of a formula", x.setNumber(0, 1, 8), 1);
        check.due("setNumber of what it read", x.setNumber(0, 0, 5), 1);
        check.due("the value is the number", x.value(1), 8);
        check.due("the other way round is no loop any more", x.setTimes(0, 0, 1, 3), 1);
    }

    private static void needsNoBudget(Check check) {
        MeteredSheets x = new MeteredSheets();
        x.setPrice(0, 100);
        x.setTimes(0, 6, 0, 1);
        x.setTimes(0, 7, 0, 1);
        check.due("marked without budget", x.isMarked(7), true);
        check.due("setNumber counts a cell that could not be computed", x.setNumber(0, 0, 5), 3);
        check.due("setNumber of a marked cell", x.setNumber(1, 7, 3), 1);
        check.due("not marked any more", x.isMarked(7), false);
        check.due("value then", x.value(7), 3);
    }
}
