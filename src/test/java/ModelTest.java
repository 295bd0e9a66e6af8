import java.util.Random;

/** Runs of calls, the same in each run of the test, on the class and on the model. */
public final class ModelTest {
    private static final int RUNS = 400;
    private static final int CALLS_BEFORE_THE_STATE = 400;

    private final Random random;
    // Runs differ in how often a number is out of range, and in how dear and rich the sheets are.
    private final int stray;
    private final int dearest;
    private final int richest;

    private ModelTest(int run) {
        random = new Random(run);
        stray = run % 3 == 0 ? 30 : 400;
        dearest = new int[] {1, 5, 40, 101}[run % 4];
        richest = new int[] {60, 400, 10001}[run / 4 % 3];
    }

    public static void main(String[] args) {
        Check check = new Check("promises 1 to 18");
        for (int run = 0; run < RUNS; run++) {
            compare(check, run);
        }
        check.end();
    }

    private static void compare(Check check, int run) {
        ModelTest test = new ModelTest(run);
        Run x = new Run();
        Model model = new Model();
        while (x.room() > 0) {
            Workbook.Call call = test.random.nextInt(4) == 0 ? test.question() : test.change();
            String name = "run " + run + ", the call before the last " + x.room();
            check.due(name, Check.outcome(call, x), Check.outcome(call, model));
            if (run % 20 == 0 && Run.MOST_CALLS - x.room() == CALLS_BEFORE_THE_STATE) {
                check.due("run " + run + ", state", State.of(x), State.of(x, Model::new));
            }
        }
    }

    private Workbook.Call change() {
        int user = number(0, 4);
        int cell = number(0, 23);
        int one = number(0, 23);
        int other = random.nextInt(8) == 0 ? one : number(0, 23);
        int value = random.nextInt(6) == 0 ? number(-1000000, 1000000) : number(-3, 3);
        int more = number(-1000, 1000);
        int factor = random.nextInt(3) == 0 ? number(-100, 100) : number(-2, 2);
        int sheet = number(0, 3);
        int price = number(0, dearest - 1);
        int money = number(1, richest - 1);
        return switch (random.nextInt(12)) {
            case 0, 1, 2, 3 -> x -> x.setNumber(user, cell, value);
            case 4, 5 -> x -> x.setSum(user, cell, one, other, more);
            case 6 -> x -> x.setGreater(user, cell, one, other);
            case 7, 8 -> x -> x.setTimes(user, cell, one, factor);
            case 9 -> x -> x.refresh(user);
            case 10 -> x -> x.setPrice(sheet, price);
            default -> x -> x.grant(sheet, money);
        };
    }

    private Workbook.Call question() {
        int user = number(0, 4);
        int cell = number(0, 23);
        int read = number(0, 23);
        int sheet = number(0, 3);
        int reading = number(0, 499);
        return switch (random.nextInt(10)) {
            case 0 -> x -> x.budget(sheet);
            case 1 -> x -> x.earned(sheet);
            case 2 -> x -> x.caused(user);
            case 3 -> x -> x.value(cell);
            case 4 -> x -> x.isMarked(cell) ? 1 : 0;
            case 5 -> x -> x.valueAnew(cell);
            case 6 -> x -> x.readings();
            case 7 -> x -> x.reading(reading);
            case 8 -> x -> x.timesRead(cell, read);
            default -> x -> x.readOf(sheet);
        };
    }

    private int number(int least, int most) {
        if (random.nextInt(stray) > 0) {
            return least + random.nextInt(most - least + 1);
        }
        int[] outside = Check.outside(least, most);
        return outside[random.nextInt(outside.length)];
    }
}
