import java.util.List;
import java.util.Random;

/** Runs of calls, the same in each run of the test, on the class and on the model. */
public final class ModelTest {
    private static final int RUNS = 400;
    private static final int CALLS = 512;

    public static void main(String[] args) {
        Check check = new Check();
        for (int run = 0; run < RUNS; run++) {
            compare(check, run);
        }
        check.end();
    }

    private static void compare(Check check, int run) {
        Random random = new Random(run);
        MeteredSheets x = new MeteredSheets();
        Model model = new Model();
        // Runs differ in how often a number is out of range, and in how dear and rich the sheets are.
        int stray = run % 3 == 0 ? 30 : 400;
        int dearest = new int[] {1, 5, 40, 101}[run % 4];
        int richest = new int[] {60, 400, 10001}[run / 4 % 3];
        for (int call = 0; call < CALLS; call++) {
            int user = number(random, 0, 5, stray);
            int cell = number(random, 0, 24, stray);
            int one = number(random, 0, 24, stray);
            int other = random.nextInt(8) == 0 ? one : number(random, 0, 24, stray);
            int value = random.nextInt(6) == 0
                ? number(random, -1000000, 1000001, stray) : number(random, -3, 4, stray);
            int more = number(random, -1000, 1001, stray);
            int factor = random.nextInt(3) == 0 ? number(random, -100, 101, stray) : number(random, -2, 3, stray);
            int sheet = number(random, 0, 4, stray);
            int price = number(random, 0, dearest, stray);
            int money = number(random, 1, richest, stray);
            String got;
            String want;
            switch (random.nextInt(12)) {
                case 0, 1, 2, 3 -> {
                    got = Check.outcome(() -> x.setNumber(user, cell, value));
                    want = Check.outcome(() -> model.set(user, cell, new Model.Formula('n', List.of(), value)));
                }
                case 4, 5 -> {
                    got = Check.outcome(() -> x.setSum(user, cell, one, other, more));
                    want = Check.outcome(
                        () -> model.set(user, cell, new Model.Formula('s', List.of(one, other), more)));
                }
                case 6 -> {
                    got = Check.outcome(() -> x.setGreater(user, cell, one, other));
                    want = Check.outcome(() -> model.set(user, cell, new Model.Formula('g', List.of(one, other), 0)));
                }
                case 7, 8 -> {
                    got = Check.outcome(() -> x.setTimes(user, cell, one, factor));
                    want = Check.outcome(() -> model.set(user, cell, new Model.Formula('t', List.of(one), factor)));
                }
                case 9 -> {
                    got = Check.outcome(() -> x.refresh(user));
                    want = Check.outcome(() -> model.refresh(user));
                }
                case 10 -> {
                    got = Check.outcome(() -> x.setPrice(sheet, price));
                    want = Check.outcome(() -> model.setPrice(sheet, price));
                }
                default -> {
                    got = Check.outcome(() -> x.grant(sheet, money));
                    want = Check.outcome(() -> model.grant(sheet, money));
                }
            }
            check.due("run " + run + ", call " + call, got, want);
            if (call % 16 == 15 || call == CALLS - 1) {
                check.due("run " + run + ", state after call " + call, State.of(x), model.state());
            }
        }
    }

    private static int number(Random random, int from, int to, int stray) {
        if (random.nextInt(stray) > 0) {
            return from + random.nextInt(to - from);
        }
        int[] wrong = {from - 1, to, Integer.MIN_VALUE, Integer.MAX_VALUE};
        return wrong[random.nextInt(wrong.length)];
    }
}
