/** What setSum, setGreater and setTimes promise alike. */
final class FormulaChecks {
    /** Gives a cell a formula of the kind that is tested; setTimes takes no other. */
    interface Kind {
        int give(Workbook x, int user, int cell, int one, int other);
    }

    private final Check check;
    private final String name;
    private final Kind kind;

    FormulaChecks(Check check, String name, Kind kind) {
        this.check = check;
        this.name = name;
        this.kind = kind;
    }

    void all() {
        takesAllWithinTheRanges();
        refusesAllOutsideTheRanges();
        refusesItselfDirectly();
        refusesItselfOverAnother();
        refusesItselfOverAllOthers();
        refusesItselfOverAFormulaThatWasNotPaid();
        takesWhatIsNoLoop();
        aFirstFormulaIsComputedAtOnce();
        aFormulaThatIsNotPaidStands();
    }

    private int give(Run x, int user, int cell, int one, int other) {
        return kind.give(x, user, cell, one, other);
    }

    private void takesAllWithinTheRanges() {
        Run x = new Run();
        for (int user = 0; user <= 4; user++) {
            check.due(name + " by user " + user, give(x, user, 6, 0, 0), 1);
            check.due("caused by user " + user, x.caused(user), 1);
        }
        for (int cell = 0; cell <= 23; cell++) {
            int read = (cell + 12) % 24;
            Run y = new Run();
            check.due(name + " of cell " + cell, give(y, 0, cell, read, read), 1);
            check.due("timesRead then", y.timesRead(cell, read), 1);
            check.due(name + " of one " + cell, give(new Run(), 0, read, cell, read == 0 ? 1 : 0), 1);
        }
    }

    private void refusesAllOutsideTheRanges() {
        Run x = new Run();
        x.setNumber(0, 1, 3);
        x.setTimes(0, 6, 1, 2);
        for (int user : Check.outside(0, 4)) {
            check.illegal(name + " by user " + user, x, () -> give(x, user, 5, 1, 2));
            check.illegal(name + " of itself by user " + user, x, () -> give(x, user, 5, 5, 5));
            check.illegal(name + " over another by user " + user, x, () -> give(x, user, 1, 6, 6));
        }
        for (int cell : Check.outside(0, 23)) {
            check.illegal(name + " of cell " + cell, x, () -> give(x, 0, cell, 1, 2));
            check.illegal(name + " of cell and one " + cell, x, () -> give(x, 0, cell, cell, 2));
            check.illegal(name + " of one " + cell, x, () -> give(x, 0, 6, cell, 2));
            check.illegal(name + " of one " + cell + " and itself", x, () -> give(x, 0, 6, cell, 6));
        }
    }

    private void refusesItselfDirectly() {
        Run x = new Run();
        x.setNumber(0, 5, 7);
        for (int cell : new int[] {0, 5, 6, 23}) {
            check.loop(name + " of cell " + cell + " itself", x, () -> give(x, 0, cell, cell, cell));
            check.loop(name + " of cell " + cell + " itself first", x, () -> give(x, 0, cell, cell, 2));
        }
    }

    private void refusesItselfOverAnother() {
        Run x = new Run();
        x.setNumber(0, 0, 7);
        x.setTimes(0, 1, 0, 0);
        x.setSum(0, 6, 0, 12, 0);
        x.setSum(0, 7, 12, 0, 0);
        x.setGreater(0, 8, 0, 12);
        x.setGreater(0, 9, 12, 0);
        x.setTimes(0, 2, 9, 1);
        for (int one : new int[] {1, 2, 6, 7, 8, 9}) {
            check.loop(name + " over cell " + one, x, () -> give(x, 0, 0, one, one));
            check.loop(name + " over cell " + one + " first", x, () -> give(x, 0, 0, one, 23));
        }
    }

    private void refusesItselfOverAllOthers() {
        Run up = new Run();
        Run down = new Run();
        for (int cell = 1; cell <= 23; cell++) {
            up.setTimes(0, cell, cell - 1, 1);
            down.setTimes(0, 23 - cell, 24 - cell, 1);
        }
        check.loop(name + " over all cells, upwards", up, () -> give(up, 0, 0, 23, 23));
        check.loop(name + " over all cells, downwards", down, () -> give(down, 0, 23, 0, 0));
        check.loop(name + " from the middle", up, () -> give(up, 0, 11, 12, 12));
        check.due(name + " of a cell that is not over it", give(up, 0, 23, 0, 0), 1);
        check.due("a change over all cells but the last, and the last", up.setNumber(0, 0, 5), 24);
        check.due("a change over all cells", down.setNumber(0, 23, 5), 24);
        check.due("value at the end of the chain", down.value(0), 5);
    }

    private void refusesItselfOverAFormulaThatWasNotPaid() {
        Run x = new Run();
        x.setPrice(0, 100);
        x.setTimes(0, 7, 0, 1);
        x.setTimes(0, 6, 0, 1);
        check.due("a formula that was not paid", x.isMarked(6), true);
        check.loop(name + " over it", x, () -> give(x, 0, 0, 6, 6));
    }

    private void takesWhatIsNoLoop() {
        Run x = new Run();
        x.setTimes(0, 1, 0, 1);
        x.setTimes(0, 2, 0, 1);
        check.due(name + " of two that read the same", give(x, 0, 3, 1, 2), 1);
        check.due(name + " of what the cell reads already", give(x, 0, 3, 2, 1), 1);
        x.setNumber(0, 3, 1);
        check.due(name + " of a cell that reads no more", give(x, 0, 1, 3, 3), 1);
        x.setTimes(0, 1, 0, 1);
        check.loop(name + " of a cell that reads again", x, () -> give(x, 0, 0, 1, 1));
        check.due(name + " after a loop that was refused", give(x, 0, 1, 0, 0), 1);
    }

    private void aFirstFormulaIsComputedAtOnce() {
        Run x = new Run();
        x.setNumber(0, 0, 3);
        x.setTimes(0, 20, 12, 1);
        check.due(name + " of a cell that another reads", give(x, 3, 12, 0, 0), 2);
        check.due("the cell is computed first", x.reading(1), 31200);
        check.due("the other one then", x.reading(2), 32012);
        check.due("value of the other one", x.value(20), x.value(12));
        check.due(name + " that gives the value as before", give(x, 3, 12, 0, 0), 1);
    }

    private void aFormulaThatIsNotPaidStands() {
        Run x = new Run();
        x.setNumber(0, 0, 7);
        x.setNumber(0, 6, 42);
        x.setTimes(0, 7, 6, 1);
        x.setPrice(0, 100);
        x.setTimes(0, 8, 0, 1);
        int readings = x.readings();
        x.setPrice(0, 1);
        check.due(name + " without budget", give(x, 2, 6, 0, 0), 1);
        check.due("the value is kept", x.value(6), 42);
        check.due("the cell is marked", x.isMarked(6), true);
        check.due("the cell that reads it is not", x.isMarked(7), false);
        check.due("nothing is read", x.readings(), readings);
        check.due("nothing is paid", x.caused(2), 0);
        int anew = x.valueAnew(6);
        check.due("its formula is the new one", anew != 42, true);
        x.grant(1, 1);
        check.due("a refresh computes it and the cell that reads it", x.refresh(3), 2);
        check.due("value then", x.value(6), anew);
        check.due("value of the cell that reads it", x.value(7), anew);
    }
}
