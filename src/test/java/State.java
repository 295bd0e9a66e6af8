import java.util.function.Supplier;

/**
 * All that can be asked of a workbook after a run of calls, as one text. No object is asked more
 * than the document allows: the run is made again on new ones.
 */
final class State {
    private final Run run;
    private final Supplier<Workbook> maker;
    private final StringBuilder text = new StringBuilder();
    private Workbook asked;
    private int room = 0;

    private State(Run run, Supplier<Workbook> maker) {
        this.run = run;
        this.maker = maker;
    }

    static String of(Run run) {
        return of(run, Run::new);
    }

    /** What the same calls leave in another workbook. */
    static String of(Run run, Supplier<Workbook> maker) {
        State state = new State(run, maker);
        state.askAll();
        state.tryAll();
        return state.text.toString();
    }

    private Workbook again() {
        Workbook x = maker.get();
        run.repeatOn(x);
        return x;
    }

    private void askAll() {
        for (int each = 0; each < 4; each++) {
            int sheet = each;
            tell("budget of sheet " + sheet, x -> x.budget(sheet));
            tell("earned of sheet " + sheet, x -> x.earned(sheet));
            tell("readOf sheet " + sheet, x -> x.readOf(sheet));
        }
        for (int each = 0; each < 5; each++) {
            int user = each;
            tell("caused by user " + user, x -> x.caused(user));
        }
        for (int each = 0; each < 24; each++) {
            askCell(each);
        }
        long kept = ask(x -> x.readings());
        tell("readings", x -> kept);
        // One more is asked for, that there must not be.
        for (int each = 0; each <= kept; each++) {
            int reading = each;
            tell("reading " + reading, x -> x.reading(reading));
        }
    }

    private void askCell(int cell) {
        tell("value of cell " + cell, x -> x.value(cell));
        tell("mark of cell " + cell, x -> x.isMarked(cell) ? 1 : 0);
        tell("valueAnew of cell " + cell, x -> x.valueAnew(cell));
        for (int each = 0; each < 24; each++) {
            int read = each;
            tell("timesRead of cell " + cell + " and " + read, x -> x.timesRead(cell, read));
        }
    }

    /** Prices, formulas and their order can only be seen by what a further call does. */
    private void tryAll() {
        for (int each = 0; each < 4; each++) {
            int sheet = each;
            tell("price of sheet " + sheet, again(), x -> x.setPrice(sheet, 0));
        }
        tell("a refresh", again(), x -> x.refresh(0));
        for (int cell = 0; cell < 24; cell++) {
            tryChange(cell);
        }
    }

    private void tryChange(int cell) {
        Workbook x = again();
        String change = "after a change of cell " + cell + ": ";
        tell(change + "computed", x, y -> y.setNumber(0, cell, 1234));
        for (int each = 0; each < 24 && each + 1 < run.room(); each++) {
            int other = each;
            tell(change + "value of cell " + other, x, y -> y.value(other));
        }
    }

    private void tell(String name, Workbook.Call question) {
        text.append(name).append(' ').append(Check.outcome(question, next())).append('\n');
    }

    private void tell(String name, Workbook x, Workbook.Call question) {
        text.append(name).append(' ').append(Check.outcome(question, x)).append('\n');
    }

    private long ask(Workbook.Call question) {
        return question.on(next());
    }

    private Workbook next() {
        if (room == 0) {
            asked = again();
            room = run.room();
        }
        room--;
        return asked;
    }
}
