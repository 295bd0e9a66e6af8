public final class Promise08GrantTest {
    private static final Check CHECK = new Check("promise 8");

    public static void main(String[] args) {
        takesAllWithinTheRanges();
        refusesAllOutsideTheRanges();
        computesNothing();
        addsToABudgetThatIsUsedUp();
        takes512GrantsOfTheMost();
        CHECK.end();
    }

    private static void takesAllWithinTheRanges() {
        Run x = new Run();
        for (int sheet = 0; sheet <= 3; sheet++) {
            CHECK.due("grant of the least", x.grant(sheet, 1), 101);
            CHECK.due("grant of one more", x.grant(sheet, 2), 103);
            CHECK.due("grant of the most", x.grant(sheet, 10000), 10103);
            CHECK.due("grant of one less", x.grant(sheet, 9999), 20102);
            CHECK.due("grant to sheet " + sheet, x.grant(sheet, 10 * (sheet + 1)), 20102 + 10 * (sheet + 1));
        }
        for (int sheet = 0; sheet <= 3; sheet++) {
            CHECK.due("budget of sheet " + sheet, x.budget(sheet), 20102 + 10 * (sheet + 1));
            CHECK.due("a grant is not earned", x.earned(sheet), 0);
        }
    }

    private static void refusesAllOutsideTheRanges() {
        Run x = new Run();
        x.grant(0, 7);
        for (int sheet : Check.outside(0, 3)) {
            CHECK.illegal("grant to sheet " + sheet, x, () -> x.grant(sheet, 1));
        }
        for (int money : Check.outside(1, 10000)) {
            CHECK.illegal("grant of " + money, x, () -> x.grant(0, money));
            CHECK.illegal("grant to the last sheet of " + money, x, () -> x.grant(3, money));
        }
        CHECK.illegal("grant of a debt", x, () -> x.grant(0, -1));
        CHECK.illegal("grant of nothing within", x, () -> x.grant(-1, 0));
    }

    private static void computesNothing() {
        Run x = new Run();
        x.setPrice(0, 100);
        x.setTimes(0, 6, 0, 1);
        x.setNumber(0, 0, 5);
        x.grant(1, 10000);
        CHECK.due("a grant leaves a mark", x.isMarked(6), true);
        CHECK.due("and the value", x.value(6), 0);
        CHECK.due("and reads nothing", x.readings(), 1);
        CHECK.due("and costs nobody", x.caused(0), 100);
    }

    private static void addsToABudgetThatIsUsedUp() {
        Run x = new Run();
        x.setPrice(0, 100);
        x.setTimes(0, 6, 0, 1);
        CHECK.due("the budget is used up", x.budget(1), 0);
        CHECK.due("grant of the least to no budget", x.grant(1, 1), 1);
    }

    private static void takes512GrantsOfTheMost() {
        Run x = new Run();
        for (int times = 1; times <= 512; times++) {
            CHECK.due("grant number " + times, x.grant(3, 10000), 100 + times * 10000);
        }
    }
}
