public final class Promise11CausedTest {
    public static void main(String[] args) {
        Check check = new Check();
        MeteredSheets x = new MeteredSheets();
        x.setPrice(0, 10);
        x.setSum(4, 6, 0, 1, 0);
        check.due("what the user caused", x.caused(4), 20);
        x.setGreater(0, 12, 0, 7);
        check.due("by two prices", x.caused(0), 11);
        x.setNumber(2, 0, 1);
        check.due("by a change of what others read", x.caused(2), 20 + 11);
        check.due("the others caused no more", x.caused(4), 20);
        check.due("the others caused no more", x.caused(0), 11);
        x.setPrice(0, 60);
        x.setNumber(3, 0, 2);
        check.due("what could not be paid costs nothing", x.caused(3), 61);
        x.setTimes(1, 1, 0, 2);
        check.due("the own sheet costs nothing", x.caused(1), 0);
        for (int user : new int[] {-1, 5, Integer.MIN_VALUE, Integer.MAX_VALUE}) {
            check.illegal("caused by user " + user, x, () -> x.caused(user));
        }
        check.end();
    }
}
