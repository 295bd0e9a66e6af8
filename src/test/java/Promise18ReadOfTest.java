public final class Promise18ReadOfTest {
    public static void main(String[] args) {
        Check check = new Check();
        MeteredSheets x = new MeteredSheets();
        x.setSum(0, 23, 17, 16, 0);
        check.due("readOf the sheet that is read", x.readOf(2), 2);
        check.due("readOf the sheet that reads", x.readOf(3), 0);
        x.setSum(0, 0, 23, 17, 0);
        check.due("readOf a third", x.readOf(2), 3);
        check.due("readOf one", x.readOf(3), 1);
        x.setPrice(2, 7);
        x.setTimes(0, 6, 17, 1);
        check.due("readings count, not what they cost", x.readOf(2), 4);
        x.setTimes(0, 12, 17, 1);
        check.due("the own sheet does not count", x.readOf(2), 4);
        x.setPrice(2, 100);
        x.setTimes(0, 7, 17, 1);
        check.due("without budget nothing counts", x.readOf(2), 4);
        check.due("a sheet that nobody reads", x.readOf(0), 0);
        for (int sheet : new int[] {-1, 4, Integer.MIN_VALUE, Integer.MAX_VALUE}) {
            check.illegal("readOf sheet " + sheet, x, () -> x.readOf(sheet));
        }
        check.end();
    }
}
