/** The sheets of the cells as the document has them, written out. */
final class Sheets {
    private static final int[] OF_CELLS = {0, 0, 0, 0, 0, 0, 1, 1, 1, 1, 1, 1, 2, 2, 2, 2, 2, 2, 3, 3, 3, 3, 3, 3};

    private Sheets() {
    }

    static int of(int cell) {
        return OF_CELLS[cell];
    }

    static int priceOf(int sheet) {
        return 10 + sheet;
    }

    static boolean isReading(int reader, int read) {
        return of(reader) != of(read);
    }

    static int costOf(int reader, int read) {
        return isReading(reader, read) ? priceOf(of(read)) : 0;
    }

    /** Each sheet has a price of its own, and user 2 has the reader read once. */
    static Run withOneReading(int reader, int read) {
        Run x = new Run();
        for (int sheet = 0; sheet <= 3; sheet++) {
            x.setPrice(sheet, priceOf(sheet));
        }
        x.setTimes(2, reader, read, 1);
        return x;
    }
}
