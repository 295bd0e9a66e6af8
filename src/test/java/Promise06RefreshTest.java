public final class Promise06RefreshTest {
    public static void main(String[] args) {
        Check check = new Check();
        MeteredSheets x = new MeteredSheets();
        x.setPrice(0, 60);
        x.setTimes(0, 6, 0, 2);
        x.setTimes(0, 7, 6, 3);
        check.due("setNumber without budget", x.setNumber(1, 0, 5), 2);
        check.due("marked then", x.isMarked(6), true);
        check.due("the cell behind it is not marked", x.isMarked(7), false);
        check.due("refresh without budget", x.refresh(2), 1);
        check.due("marked still", x.isMarked(6), true);
        check.due("the value is kept", x.value(6), 0);
        check.due("nothing is read", x.readings(), 1);
        check.due("nothing is paid", x.budget(1), 40);
        x.grant(1, 20);
        check.due("refresh with budget", x.refresh(3), 2);
        check.due("value then", x.value(6), 10);
        check.due("value behind it", x.value(7), 30);
        check.due("not marked any more", x.isMarked(6), false);
        check.due("budget used up", x.budget(1), 0);
        check.due("the refresh is traced to its user", x.reading(1), 30600);
        check.due("the refresh is billed to its user", x.caused(3), 60);
        check.due("the change is not", x.caused(1), 0);
        check.due("refresh again", x.refresh(3), 0);
        for (int user : new int[] {-1, 5, Integer.MIN_VALUE, Integer.MAX_VALUE}) {
            check.illegal("refresh by user " + user, x, () -> x.refresh(user));
        }
        sameValueGoesNoFurther(check);
        markedBothWays(check);
        check.end();
    }

    private static void sameValueGoesNoFurther(Check check) {
        MeteredSheets x = new MeteredSheets();
        x.setPrice(0, 60);
        x.setTimes(0, 6, 0, 0);
        x.setTimes(0, 7, 6, 3);
        x.setNumber(0, 0, 5);
        x.grant(1, 100);
        check.due("refresh that gives no other value", x.refresh(0), 1);
        check.due("not marked any more", x.isMarked(6), false);
    }

    private static void markedBothWays(Check check) {
        MeteredSheets x = new MeteredSheets();
        x.setPrice(0, 60);
        x.setTimes(0, 6, 0, 1);
        x.setSum(0, 7, 6, 0, 0);
        x.setNumber(0, 0, 5);
        check.due("both are marked", x.isMarked(6) && x.isMarked(7), true);
        x.grant(1, 80);
        check.due("a marked cell behind a marked one counts once", x.refresh(0), 2);
        check.due("both are computed", x.value(7), 10);
    }
}
