/** Counts the answers that are not the ones that are due, and ends a test with exit code 1 if there was one. */
final class Check {
    interface Call {
        long answer();
    }

    private int wrong = 0;

    void due(String call, long got, long want) {
        if (got != want) {
            say(call + " answered " + got + ", due is " + want);
        }
    }

    void due(String call, boolean got, boolean want) {
        due(call, got ? 1 : 0, want ? 1 : 0);
    }

    void due(String call, String got, String want) {
        if (!got.equals(want)) {
            say(call + " answered\n" + got + ", due is\n" + want);
        }
    }

    /** The call is due to throw exactly this exception, and to change nothing that can be asked. */
    void refused(String call, MeteredSheets x, Class<? extends RuntimeException> want, Call made) {
        String before = State.of(x);
        due(call, outcome(made), "throws " + want.getName());
        due("the state after " + call, State.of(x), before);
    }

    void illegal(String call, MeteredSheets x, Call made) {
        refused(call, x, IllegalArgumentException.class, made);
    }

    void loop(String call, MeteredSheets x, Call made) {
        refused(call, x, IllegalStateException.class, made);
    }

    static String outcome(Call made) {
        try {
            return "answers " + made.answer();
        } catch (RuntimeException thrown) {
            return "throws " + thrown.getClass().getName();
        }
    }

    void end() {
        if (wrong > 0) {
            System.out.println(wrong + " answers are not as due");
            System.exit(1);
        }
    }

    private void say(String line) {
        wrong++;
        System.out.println(line);
    }
}
