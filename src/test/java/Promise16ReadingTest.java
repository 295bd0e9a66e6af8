public final class Promise16ReadingTest {
    public static void main(String[] args) {
        Check check = new Check();
        MeteredSheets x = new MeteredSheets();
        check.refused("reading(0) of none", x, IndexOutOfBoundsException.class, () -> x.reading(0));
        x.setSum(4, 23, 17, 5, 0);
        check.due("the first cell that is named", x.reading(0), 42317);
        check.due("the second", x.reading(1), 42305);
        x.setGreater(3, 0, 6, 7);
        x.setGreater(3, 1, 7, 6);
        check.due("the order of the formula", x.reading(2), 30006);
        check.due("the order of the formula", x.reading(3), 30007);
        check.due("the order of the formula", x.reading(4), 30107);
        check.due("the order of the formula", x.reading(5), 30106);
        x.setSum(1, 2, 3, 8, 0);
        check.due("only the cell of another sheet", x.reading(6), 10208);
        for (int reading : new int[] {-1, 7, 500, Integer.MIN_VALUE, Integer.MAX_VALUE}) {
            check.refused("reading(" + reading + ")", x, IndexOutOfBoundsException.class, () -> x.reading(reading));
        }
        theOrderOfAllCells(check);
        theNewOrder(check);
        check.end();
    }

    /** Cell 0 waits for 6 and 5 for 20; each stands next then, as the lowest of those that may. */
    private static void theOrderOfAllCells(Check check) {
        MeteredSheets x = new MeteredSheets();
        x.setTimes(0, 20, 6, 1);
        x.setTimes(0, 5, 20, 1);
        x.setSum(0, 21, 6, 7, 1);
        x.setTimes(0, 8, 20, 1);
        x.setTimes(0, 0, 6, 1);
        x.setTimes(0, 2, 5, 1);
        x.setTimes(0, 9, 2, 1);
        int before = x.readings();
        check.due("a change that reaches all of them", x.setNumber(2, 6, 9), 8);
        // In their order 0, 20, 5, 2, 8, 9, 21; what 2 reads is in its own sheet.
        int[] due = {20006, 22006, 20520, 20820, 20902, 22106, 22107};
        for (int place = 0; place < due.length; place++) {
            check.due("reading " + place + " of the change", x.reading(before + place), due[place]);
        }
        check.due("no more readings", x.readings(), before + due.length);
    }

    /** The cell is computed first; the others follow in the order with the new formula. */
    private static void theNewOrder(Check check) {
        MeteredSheets x = new MeteredSheets();
        x.setNumber(0, 23, 1);
        x.setTimes(0, 0, 7, 1);
        x.setTimes(0, 6, 0, 1);
        x.setSum(0, 18, 7, 6, 0);
        int before = x.readings();
        check.due("a formula over a later cell", x.setTimes(1, 7, 23, 5), 4);
        int[] due = {10723, 10007, 10600, 11807, 11806};
        for (int place = 0; place < due.length; place++) {
            check.due("reading " + place + " of the formula", x.reading(before + place), due[place]);
        }
        check.due("value at the end", x.value(18), 10);
    }
}
