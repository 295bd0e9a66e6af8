public final class Promise08GrantTest {
    public static void main(String[] args) {
        Check check = new Check();
        MeteredSheets x = new MeteredSheets();
        for (int sheet = 0; sheet < 4; sheet++) {
            check.due("grant of the least", x.grant(sheet, 1), 101);
            check.due("grant of the most", x.grant(sheet, 10000), 10101);
            check.due("grant again", x.grant(sheet, 10 * (sheet + 1)), 10101 + 10 * (sheet + 1));
            check.due("budget then", x.budget(sheet), 10101 + 10 * (sheet + 1));
        }
        check.due("a grant is not earned", x.earned(0), 0);
        for (int sheet : new int[] {-1, 4, Integer.MIN_VALUE, Integer.MAX_VALUE}) {
            check.illegal("grant to sheet " + sheet, x, () -> x.grant(sheet, 1));
        }
        for (int money : new int[] {0, -1, 10001, Integer.MIN_VALUE, Integer.MAX_VALUE}) {
            check.illegal("grant of " + money, x, () -> x.grant(0, money));
        }
        computesNothing(check);
        manyGrants(check);
        check.end();
    }

    private static void computesNothing(Check check) {
        MeteredSheets x = new MeteredSheets();
        x.setPrice(0, 100);
        x.setTimes(0, 6, 0, 1);
        x.setNumber(0, 0, 5);
        x.grant(1, 1000);
        check.due("a grant leaves a marked cell as it is", x.isMarked(6), true);
        check.due("and its value", x.value(6), 0);
    }

    private static void manyGrants(Check check) {
        MeteredSheets x = new MeteredSheets();
        for (int times = 0; times < 511; times++) {
            x.grant(3, 10000);
        }
        check.due("the last of 512 grants", x.grant(3, 10000), 100 + 512 * 10000);
    }
}
