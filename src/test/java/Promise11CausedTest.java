public final class Promise11CausedTest {
    private static final Check CHECK = new Check("promise 11");

    public static void main(String[] args) {
        refusesOtherUsers();
        eachUserCausesHisOwn();
        eachReadingCostsItsPrice();
        whoeverChangesCausesAll();
        whoeverRefreshesCausesAll();
        nothingIsCausedWithoutBudget();
        readingsThatAreNotKeptCostToo();
        CHECK.end();
    }

    private static void refusesOtherUsers() {
        Run x = new Run();
        x.setTimes(0, 6, 0, 1);
        for (int user : Check.outside(0, 4)) {
            CHECK.illegal("caused by user " + user, x, () -> x.caused(user));
        }
    }

    private static void eachUserCausesHisOwn() {
        Run x = new Run();
        for (int user = 0; user <= 4; user++) {
            x.setPrice(0, 10 + user);
            x.setTimes(user, 6, 0, 1);
        }
        for (int user = 0; user <= 4; user++) {
            CHECK.due("caused by user " + user, x.caused(user), 10 + user);
        }
    }

    private static void eachReadingCostsItsPrice() {
        for (int reader = 0; reader < 24; reader++) {
            for (int read = 0; read < 24; read++) {
                if (reader != read) {
                    Run x = Sheets.withOneReading(reader, read);
                    CHECK.due("caused as " + reader + " has read " + read, x.caused(2), Sheets.costOf(reader, read));
                }
            }
        }
    }

    private static void whoeverChangesCausesAll() {
        Run x = new Run();
        x.setPrice(0, 10);
        x.setSum(4, 6, 0, 1, 0);
        CHECK.due("by two readings", x.caused(4), 20);
        x.setGreater(0, 12, 0, 7);
        CHECK.due("by two prices", x.caused(0), 11);
        x.setNumber(2, 0, 1);
        CHECK.due("by a change of what others read", x.caused(2), 20 + 11);
        CHECK.due("the user of the first formula caused no more", x.caused(4), 20);
        CHECK.due("the user of the second formula caused no more", x.caused(0), 11);
        x.setTimes(1, 1, 0, 2);
        CHECK.due("by a change that reaches others from the own sheet", x.caused(1), 20);
    }

    private static void whoeverRefreshesCausesAll() {
        Run x = new Run();
        x.setPrice(0, 51);
        x.setTimes(0, 6, 0, 1);
        x.setNumber(1, 0, 5);
        CHECK.due("by the change that could not be paid", x.caused(1), 0);
        x.grant(1, 2);
        x.refresh(3);
        CHECK.due("by the refresh", x.caused(3), 51);
        CHECK.due("by the change still", x.caused(1), 0);
        CHECK.due("by the formula still", x.caused(0), 51);
    }

    private static void nothingIsCausedWithoutBudget() {
        Run x = new Run();
        x.setPrice(0, 60);
        x.setPrice(1, 41);
        x.setSum(1, 12, 0, 6, 0);
        CHECK.due("less by one", x.caused(1), 0);
        x.setPrice(1, 40);
        x.refresh(1);
        CHECK.due("just enough", x.caused(1), 100);
    }

    private static void readingsThatAreNotKeptCostToo() {
        Run x = Kept.of(499);
        x.setPrice(0, 7);
        x.setSum(4, 7, 0, 1, 0);
        CHECK.due("the 500th and the 501st reading", x.caused(4), 14);
        x.setTimes(4, 8, 0, 1);
        CHECK.due("the 502nd reading", x.caused(4), 21);
    }
}
