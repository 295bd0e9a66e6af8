/** Workbooks that keep many readings, made with few calls. */
final class Kept {
    private Kept() {
    }

    /** Cells of sheet 1 and 2 read cell 0 at its first price, by user 1, until so many readings stand. */
    static Run of(int readings) {
        Run x = new Run();
        x.grant(1, 10000);
        x.grant(2, 10000);
        int left = readings;
        for (int cell = 6; cell <= 15; cell++) {
            x.setTimes(1, cell, 0, 1);
            left--;
        }
        for (int value = 1; left >= 10; value++) {
            x.setNumber(1, 0, value);
            left -= 10;
        }
        for (; left > 0; left--) {
            x.setTimes(1, 6, 0, 1);
        }
        return x;
    }
}
