import java.util.ArrayList;
import java.util.HashMap;
import java.util.HashSet;
import java.util.LinkedHashSet;
import java.util.List;
import java.util.Map;
import java.util.Set;

/** The document once more, written for its words and not for speed, to compare the class with. */
final class Model implements Workbook {
    /** A formula: its kind, the cells that it names, and its number. */
    record Formula(char kind, List<Integer> named, long number) {
        Set<Integer> reads() {
            return new LinkedHashSet<>(named);
        }

        long comesTo(Map<Integer, Long> values) {
            long result = switch (kind) {
                case 'n' -> number;
                case 's' -> values.get(named.get(0)) + values.get(named.get(1)) + number;
                case 'g' -> Math.max(values.get(named.get(0)), values.get(named.get(1)));
                default -> values.get(named.get(0)) * number;
            };
            return result > 1000000 ? 1000000 : result < -1000000 ? -1000000 : result;
        }
    }

    /** A reading that was paid, kept or not. */
    record Reading(int user, int reader, int read, int cost) {
    }

    private final Map<Integer, Formula> formulas = new HashMap<>();
    private final Map<Integer, Long> values = new HashMap<>();
    private final Set<Integer> marked = new HashSet<>();
    private final int[] prices = {1, 1, 1, 1};
    private final int[] budgets = {100, 100, 100, 100};
    private final List<Reading> paid = new ArrayList<>();

    Model() {
        for (int cell = 0; cell < 24; cell++) {
            formulas.put(cell, new Formula('n', List.of(), 0));
            values.put(cell, 0L);
        }
    }

    @Override
    public int setNumber(int user, int cell, int value) {
        return set(user, cell, new Formula('n', List.of(), value));
    }

    @Override
    public int setSum(int user, int cell, int one, int other, int more) {
        return set(user, cell, new Formula('s', List.of(one, other), more));
    }

    @Override
    public int setGreater(int user, int cell, int one, int other) {
        return set(user, cell, new Formula('g', List.of(one, other), 0));
    }

    @Override
    public int setTimes(int user, int cell, int one, int factor) {
        return set(user, cell, new Formula('t', List.of(one), factor));
    }

    @Override
    public int refresh(int user) {
        range(user, 0, 4);
        return goThrough(user, new HashSet<>(), true);
    }

    @Override
    public int setPrice(int sheet, int price) {
        range(sheet, 0, 3);
        range(price, 0, 100);
        int before = prices[sheet];
        prices[sheet] = price;
        return before;
    }

    @Override
    public int grant(int sheet, int money) {
        range(sheet, 0, 3);
        range(money, 1, 10000);
        budgets[sheet] += money;
        return budgets[sheet];
    }

    @Override
    public int budget(int sheet) {
        range(sheet, 0, 3);
        return budgets[sheet];
    }

    @Override
    public int earned(int sheet) {
        range(sheet, 0, 3);
        return paid.stream().filter(each -> each.read() / 6 == sheet).mapToInt(Reading::cost).sum();
    }

    @Override
    public int caused(int user) {
        range(user, 0, 4);
        return paid.stream().filter(each -> each.user() == user).mapToInt(Reading::cost).sum();
    }

    @Override
    public int value(int cell) {
        range(cell, 0, 23);
        return (int) (long) values.get(cell);
    }

    @Override
    public boolean isMarked(int cell) {
        range(cell, 0, 23);
        return marked.contains(cell);
    }

    @Override
    public int valueAnew(int cell) {
        range(cell, 0, 23);
        Map<Integer, Long> anew = new HashMap<>();
        for (int each : order()) {
            anew.put(each, formulas.get(each).comesTo(anew));
        }
        return (int) (long) anew.get(cell);
    }

    @Override
    public int readings() {
        return Math.min(500, paid.size());
    }

    @Override
    public int reading(int reading) {
        if (reading < 0 || reading >= readings()) {
            throw new IndexOutOfBoundsException();
        }
        Reading kept = paid.get(reading);
        return 10000 * kept.user() + 100 * kept.reader() + kept.read();
    }

    @Override
    public int timesRead(int reader, int read) {
        range(reader, 0, 23);
        range(read, 0, 23);
        return (int) paid.stream().filter(each -> each.reader() == reader && each.read() == read).count();
    }

    @Override
    public int readOf(int sheet) {
        range(sheet, 0, 3);
        return (int) paid.stream().filter(each -> each.read() / 6 == sheet).count();
    }

    private int set(int user, int cell, Formula formula) {
        range(user, 0, 4);
        range(cell, 0, 23);
        for (int named : formula.named()) {
            range(named, 0, 23);
        }
        long most = switch (formula.kind()) {
            case 'n' -> 1000000;
            case 's' -> 1000;
            default -> 100;
        };
        range(formula.number(), -most, most);
        for (int named : formula.named()) {
            if (reaches(named, cell)) {
                throw new IllegalStateException();
            }
        }
        formulas.put(cell, formula);
        Set<Integer> changed = new HashSet<>();
        compute(user, cell, changed);
        return 1 + goThrough(user, changed, false);
    }

    private static void range(long number, long least, long most) {
        if (number < least || number > most) {
            throw new IllegalArgumentException();
        }
    }

    private boolean reaches(int from, int cell) {
        if (from == cell) {
            return true;
        }
        for (int read : formulas.get(from).reads()) {
            if (reaches(read, cell)) {
                return true;
            }
        }
        return false;
    }

    private Set<Integer> order() {
        Set<Integer> order = new LinkedHashSet<>();
        while (order.size() < 24) {
            int next = 0;
            while (order.contains(next) || !order.containsAll(formulas.get(next).reads())) {
                next++;
            }
            order.add(next);
        }
        return order;
    }

    private int goThrough(int user, Set<Integer> changed, boolean alsoMarked) {
        int count = 0;
        for (int cell : order()) {
            boolean due = alsoMarked && marked.contains(cell);
            for (int read : formulas.get(cell).reads()) {
                due |= changed.contains(read);
            }
            if (due) {
                compute(user, cell, changed);
                count++;
            }
        }
        return count;
    }

    private void compute(int user, int cell, Set<Integer> changed) {
        List<Reading> due = new ArrayList<>();
        int cost = 0;
        for (int read : formulas.get(cell).reads()) {
            if (read / 6 != cell / 6) {
                due.add(new Reading(user, cell, read, prices[read / 6]));
                cost += prices[read / 6];
            }
        }
        if (budgets[cell / 6] < cost) {
            marked.add(cell);
            return;
        }
        budgets[cell / 6] -= cost;
        paid.addAll(due);
        marked.remove(cell);
        long result = formulas.get(cell).comesTo(values);
        if (result != values.put(cell, result)) {
            changed.add(cell);
        }
    }
}
