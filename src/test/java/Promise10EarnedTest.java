public final class Promise10EarnedTest {
    public static void main(String[] args) {
        Check check = new Check();
        MeteredSheets x = new MeteredSheets();
        x.setPrice(0, 10);
        x.setPrice(2, 30);
        x.setSum(0, 6, 0, 12, 0);
        check.due("what the first has earned", x.earned(0), 10);
        check.due("what the second has earned", x.earned(2), 30);
        check.due("what the reader has earned", x.earned(1), 0);
        x.setTimes(0, 18, 0, 1);
        check.due("earned of two sheets", x.earned(0), 20);
        x.setPrice(0, 3);
        check.due("a price changes nothing that was earned", x.earned(0), 20);
        x.setNumber(0, 0, 4);
        check.due("earned by a change", x.earned(0), 26);
        x.setTimes(0, 1, 0, 1);
        check.due("nothing is earned from the own sheet", x.earned(0), 26);
        x.setPrice(0, 100);
        x.setNumber(0, 0, 5);
        check.due("nothing is earned from cells without budget", x.earned(0), 26);
        for (int sheet : new int[] {-1, 4, Integer.MIN_VALUE, Integer.MAX_VALUE}) {
            check.illegal("earned of sheet " + sheet, x, () -> x.earned(sheet));
        }
        check.end();
    }
}
