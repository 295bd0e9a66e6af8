public final class Promise16ReadingTest {
    private static final Check CHECK = new Check("promise 16");

    public static void main(String[] args) {
        thereAreOnlyThoseThatAreKept();
        tellsUserCellAndCellThatIsRead();
        isInTheOrderOfTheFormula();
        isInTheOrderOfAllCells();
        theLowestOfThoseThatMayStandsNext();
        isInTheNewOrder();
        theNewOrderHoldsAtOnce();
        doesNotChangeLater();
        CHECK.end();
    }

    private static void thereAreOnlyThoseThatAreKept() {
        Run x = new Run();
        for (int reading : new int[] {-1, 0, 1, 499, 500, Integer.MIN_VALUE, Integer.MAX_VALUE}) {
            CHECK.none("reading(" + reading + ") of none", x, () -> x.reading(reading));
        }
        x.setTimes(0, 6, 0, 1);
        CHECK.due("reading(0) of one", x.reading(0), 600);
        CHECK.none("reading(1) of one", x, () -> x.reading(1));
        CHECK.none("reading(-1) of one", x, () -> x.reading(-1));
        Run full = Kept.of(510);
        CHECK.due("reading(0) of the most", full.reading(0), 10600);
        CHECK.due("reading(499) of the most", full.reading(499), 11500);
        for (int reading : Check.outside(0, 499)) {
            CHECK.none("reading(" + reading + ") of the most", full, () -> full.reading(reading));
        }
    }

    private static void tellsUserCellAndCellThatIsRead() {
        reads(0, 0, 6, 6);
        reads(0, 0, 23, 23);
        reads(0, 6, 0, 600);
        reads(4, 23, 0, 42300);
        reads(4, 23, 17, 42317);
        reads(4, 17, 23, 41723);
        reads(1, 11, 12, 11112);
        reads(2, 12, 11, 21211);
    }

    private static void reads(int user, int reader, int read, int want) {
        Run x = new Run();
        x.setTimes(user, reader, read, 1);
        CHECK.due("user " + user + " has cell " + reader + " read " + read, x.reading(0), want);
    }

    private static void isInTheOrderOfTheFormula() {
        Run x = new Run();
        x.setSum(4, 23, 17, 5, 0);
        x.setSum(4, 23, 5, 17, 0);
        x.setGreater(3, 0, 6, 7);
        x.setGreater(3, 1, 7, 6);
        x.setSum(1, 2, 3, 8, 0);
        x.setSum(1, 3, 8, 4, 0);
        x.setNumber(2, 17, 1);
        isDue(x, 0, 42317, 42305, 42305, 42317, 30006, 30007, 30107, 30106, 10208, 10308, 22305, 22317);
    }

    /** Cell 0 waits for 6 and 5 for 20; each stands next then, as the lowest of those that may. */
    private static void isInTheOrderOfAllCells() {
        Run x = new Run();
        x.setTimes(0, 20, 6, 1);
        x.setTimes(0, 5, 20, 1);
        x.setSum(0, 21, 6, 7, 1);
        x.setTimes(0, 8, 20, 1);
        x.setTimes(0, 0, 6, 1);
        x.setTimes(0, 2, 5, 1);
        x.setTimes(0, 9, 2, 1);
        int before = x.readings();
        CHECK.due("a change that reaches all of them", x.setNumber(2, 6, 9), 8);
        // In their order 0, 20, 5, 2, 8, 9, 21; what 2 reads is in its own sheet.
        isDue(x, before, 20006, 22006, 20520, 20820, 20902, 22106, 22107);
    }

    /** What stands next is not what the change reaches next, but the lowest of all that may. */
    private static void theLowestOfThoseThatMayStandsNext() {
        Run x = new Run();
        x.setTimes(0, 1, 23, 1);
        x.setTimes(0, 7, 0, 1);
        x.setTimes(0, 18, 1, 1);
        x.setSum(0, 12, 0, 1, 0);
        x.setTimes(0, 22, 0, 1);
        x.setTimes(0, 6, 18, 1);
        x.setTimes(0, 23, 0, 1);
        int before = x.readings();
        CHECK.due("a change that reaches seven more", x.setNumber(0, 0, 5), 8);
        // Cells 7 and 22 stand before 23, which 1 waits for; after it come 1, 12, 18, and at last 6.
        isDue(x, before, 700, 2200, 2300, 123, 1200, 1201, 1801, 618);
    }

    /** The cell is computed first; the others follow in the order with the new formula. */
    private static void isInTheNewOrder() {
        Run x = new Run();
        x.setNumber(0, 23, 1);
        x.setTimes(0, 0, 7, 1);
        x.setTimes(0, 6, 0, 1);
        x.setSum(0, 18, 7, 6, 0);
        int before = x.readings();
        CHECK.due("a formula over a later cell", x.setTimes(1, 7, 23, 5), 4);
        isDue(x, before, 10723, 10007, 10600, 11807, 11806);
        CHECK.due("value at the end", x.value(18), 10);
        // Cell 0 waits for 7 no more, and is the first again.
        x.setTimes(0, 0, 23, 1);
        int then = x.readings();
        x.setNumber(2, 23, 2);
        isDue(x, then, 20023, 20600, 20723, 21807, 21806);
    }

    /** Cell 6 waits for 20 and 8 does not, unless 0, that both read, waits for 20 as well. */
    private static void theNewOrderHoldsAtOnce() {
        Run x = new Run();
        x.setNumber(0, 20, 7);
        x.setSum(0, 6, 0, 20, 0);
        x.setTimes(0, 8, 0, 1);
        int before = x.readings();
        CHECK.due("a formula that brings 6 before 8", x.setTimes(1, 0, 20, 1), 3);
        isDue(x, before, 10020, 10600, 10620, 10800);
        int then = x.readings();
        CHECK.due("a number that brings 8 before 6", x.setNumber(2, 0, 1), 3);
        isDue(x, then, 20800, 20600, 20620);
    }

    private static void doesNotChangeLater() {
        Run x = new Run();
        x.setSum(1, 6, 0, 12, 0);
        x.setNumber(2, 6, 4);
        x.setPrice(0, 100);
        x.setTimes(3, 6, 1, 1);
        x.refresh(4);
        isDue(x, 0, 10600, 10612);
    }

    private static void isDue(Run x, int from, int... due) {
        for (int place = 0; place < due.length; place++) {
            int reading = from + place;
            CHECK.due("reading " + reading, Check.outcome(y -> y.reading(reading), x), "answers " + due[place]);
        }
        CHECK.due("readings", x.readings(), from + due.length);
    }
}
