/** The face of the document, for all that the tests make calls on. */
interface Workbook {
    interface Call {
        long on(Workbook x);
    }

    int setNumber(int user, int cell, int value);

    int setSum(int user, int cell, int one, int other, int more);

    int setGreater(int user, int cell, int one, int other);

    int setTimes(int user, int cell, int one, int factor);

    int refresh(int user);

    int setPrice(int sheet, int price);

    int grant(int sheet, int money);

    int budget(int sheet);

    int earned(int sheet);

    int caused(int user);

    int value(int cell);

    boolean isMarked(int cell);

    int valueAnew(int cell);

    int readings();

    int reading(int reading);

    int timesRead(int reader, int read);

    int readOf(int sheet);
}
