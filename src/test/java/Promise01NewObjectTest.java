public final class Promise01NewObjectTest {
    public static void main(String[] args) {
        Check check = new Check();
        MeteredSheets x = new MeteredSheets();
        for (int cell = 0; cell < 24; cell++) {
            check.due("value of new cell " + cell, x.value(cell), 0);
            check.due("isMarked of new cell " + cell, x.isMarked(cell), false);
            check.due("valueAnew of new cell " + cell, x.valueAnew(cell), 0);
            for (int read = 0; read < 24; read++) {
                check.due("timesRead(" + cell + ", " + read + ") of a new object", x.timesRead(cell, read), 0);
            }
        }
        for (int sheet = 0; sheet < 4; sheet++) {
            check.due("new budget", x.budget(sheet), 100);
            check.due("new earned", x.earned(sheet), 0);
            check.due("new readOf", x.readOf(sheet), 0);
            check.due("new price", x.setPrice(sheet, 1), 1);
        }
        for (int user = 0; user < 5; user++) {
            check.due("new caused", x.caused(user), 0);
            check.due("refresh of a new object", x.refresh(user), 0);
        }
        check.due("new readings", x.readings(), 0);
        objectsShareNothing(check);
        check.end();
    }

    private static void objectsShareNothing(Check check) {
        MeteredSheets one = new MeteredSheets();
        MeteredSheets other = new MeteredSheets();
        String before = State.of(other);
        one.setNumber(0, 0, 5);
        one.setTimes(1, 6, 0, 2);
        one.grant(2, 7);
        one.setPrice(3, 9);
        check.due("the state of another object", State.of(other), before);
    }
}
