/** Counts the answers that are not the ones that are due, and ends a test with exit code 1 if there was one. */
final class Check {
    interface Answer {
        long given();
    }

    private final String promise;
    private int wrong = 0;

    Check(String promise) {
        this.promise = promise;
    }

    /** The first number outside on either side, and the farthest. */
    static int[] outside(int least, int most) {
        return new int[] {least - 1, most + 1, Integer.MIN_VALUE, Integer.MAX_VALUE};
    }

    void due(String call, long got, long want) {
        if (got != want) {
            say(call + " answered " + got + ", due is " + want);
        }
    }

    void due(String call, boolean got, boolean want) {
        due(call, got ? 1 : 0, want ? 1 : 0);
    }

    void due(String call, String got, String want) {
        if (!got.equals(want)) {
            say(call + " answered\n" + got + "\ndue is\n" + want);
        }
    }

    /** The call is due to throw exactly this exception, and to leave all as it was. */
    void refused(String call, Run x, Class<? extends RuntimeException> want, Answer made) {
        String before = State.of(x);
        due(call, outcome(y -> made.given(), x), "throws " + want.getName());
        due("the state after " + call, State.of(x), before);
    }

    void illegal(String call, Run x, Answer made) {
        refused(call, x, IllegalArgumentException.class, made);
    }

    void loop(String call, Run x, Answer made) {
        refused(call, x, IllegalStateException.class, made);
    }

    void none(String call, Run x, Answer made) {
        refused(call, x, IndexOutOfBoundsException.class, made);
    }

    static String outcome(Workbook.Call call, Workbook x) {
        try {
            return "answers " + call.on(x);
        } catch (RuntimeException thrown) {
            return "throws " + thrown.getClass().getName();
        }
    }

    void end() {
        if (wrong > 0) {
            System.out.println(wrong + " answers are not as due");
            System.exit(1);
        }
    }

    private void say(String line) {
        wrong++;
        System.out.println(promise + ": " + line);
    }
}
