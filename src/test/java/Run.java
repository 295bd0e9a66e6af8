import java.util.ArrayList;
import java.util.List;

/** A new object of the class and the calls made on it so far; no more are made than the document allows. */
final class Run implements Workbook {
    static final int MOST_CALLS = 512;

    private final MeteredSheets x = new MeteredSheets();
    private final List<Call> calls = new ArrayList<>();

    /** How many calls may still be made. */
    int room() {
        return MOST_CALLS - calls.size();
    }

    /** Makes all these calls once more, on another object. */
    void repeatOn(Workbook other) {
        for (Call call : calls) {
            Check.outcome(call, other);
        }
    }

    private void note(Call call) {
        if (room() < 1) {
            throw new AssertionError("the document promises nothing about a call after the 512th");
        }
        calls.add(call);
    }

    @Override
    public int setNumber(int user, int cell, int value) {
        note(y -> y.setNumber(user, cell, value));
        return x.setNumber(user, cell, value);
    }

    @Override
    public int setSum(int user, int cell, int one, int other, int more) {
        note(y -> y.setSum(user, cell, one, other, more));
        return x.setSum(user, cell, one, other, more);
    }

    @Override
    public int setGreater(int user, int cell, int one, int other) {
        note(y -> y.setGreater(user, cell, one, other));
        return x.setGreater(user, cell, one, other);
    }

    @Override
    public int setTimes(int user, int cell, int one, int factor) {
        note(y -> y.setTimes(user, cell, one, factor));
        return x.setTimes(user, cell, one, factor);
    }

    @Override
    public int refresh(int user) {
        note(y -> y.refresh(user));
        return x.refresh(user);
    }

    @Override
    public int setPrice(int sheet, int price) {
        note(y -> y.setPrice(sheet, price));
        return x.setPrice(sheet, price);
    }

    @Override
    public int grant(int sheet, int money) {
        note(y -> y.grant(sheet, money));
        return x.grant(sheet, money);
    }

    @Override
    public int budget(int sheet) {
        note(y -> y.budget(sheet));
        return x.budget(sheet);
    }

    @Override
    public int earned(int sheet) {
        note(y -> y.earned(sheet));
        return x.earned(sheet);
    }

    @Override
    public int caused(int user) {
        note(y -> y.caused(user));
        return x.caused(user);
    }

    @Override
    public int value(int cell) {
        note(y -> y.value(cell));
        return x.value(cell);
    }

    @Override
    public boolean isMarked(int cell) {
        note(y -> y.isMarked(cell) ? 1 : 0);
        return x.isMarked(cell);
    }

    @Override
    public int valueAnew(int cell) {
        note(y -> y.valueAnew(cell));
        return x.valueAnew(cell);
    }

    @Override
    public int readings() {
        note(y -> y.readings());
        return x.readings();
    }

    @Override
    public int reading(int reading) {
        note(y -> y.reading(reading));
        return x.reading(reading);
    }

    @Override
    public int timesRead(int reader, int read) {
        note(y -> y.timesRead(reader, read));
        return x.timesRead(reader, read);
    }

    @Override
    public int readOf(int sheet) {
        note(y -> y.readOf(sheet));
        return x.readOf(sheet);
    }
}
