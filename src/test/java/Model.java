import java.util.ArrayList;
import java.util.HashMap;
import java.util.HashSet;
import java.util.LinkedHashSet;
import java.util.List;
import java.util.Map;
import java.util.Set;

/** The document once more, written for its words and not for speed, to compare the class with. */
final class Model {
    /** A formula: its kind, the cells that it names, and its number. */
    record Formula(char kind, List<Integer> named, long number) {
        Set<Integer> reads() {
            return new LinkedHashSet<>(named);
        }

        long comesTo(Map<Integer, Long> values) {
            long result = switch (kind) {
                case 'n' -> number;
                case 's' -> values.get(named.get(0)) + values.get(named.get(1)) + number;
                case 'g' -> Math.max(values.get(named.get(0)), values.get(named.get(1)));
                default -> values.get(named.get(0)) * number;
            };
            return result > 1000000 ? 1000000 : result < -1000000 ? -1000000 : result;
        }
    }

    final Map<Integer, Formula> formulas = new HashMap<>();
    final Map<Integer, Long> values = new HashMap<>();
    final Set<Integer> marked = new HashSet<>();
    final long[] prices = {1, 1, 1, 1};
    final long[] budgets = {100, 100, 100, 100};
    /** Each reading that was paid: its number as it is told, and its cost. */
    final List<long[]> readings = new ArrayList<>();

    Model() {
        for (int cell = 0; cell < 24; cell++) {
            formulas.put(cell, new Formula('n', List.of(), 0));
            values.put(cell, 0L);
        }
    }

    long set(int user, int cell, Formula formula) {
        range(user, 0, 4);
        range(cell, 0, 23);
        for (int named : formula.named()) {
            range(named, 0, 23);
        }
        long most = switch (formula.kind()) {
            case 'n' -> 1000000;
            case 's' -> 1000;
            default -> 100;
        };
        range(formula.number(), -most, most);
        for (int named : formula.named()) {
            if (reaches(named, cell)) {
                throw new IllegalStateException();
            }
        }
        formulas.put(cell, formula);
        Set<Integer> changed = new HashSet<>();
        compute(user, cell, changed);
        return 1 + goThrough(user, changed, false);
    }

    long refresh(int user) {
        range(user, 0, 4);
        return goThrough(user, new HashSet<>(), true);
    }

    long setPrice(int sheet, int price) {
        range(sheet, 0, 3);
        range(price, 0, 100);
        long before = prices[sheet];
        prices[sheet] = price;
        return before;
    }

    long grant(int sheet, int money) {
        range(sheet, 0, 3);
        range(money, 1, 10000);
        budgets[sheet] += money;
        return budgets[sheet];
    }

    String state() {
        StringBuilder text = new StringBuilder();
        for (int sheet = 0; sheet < 4; sheet++) {
            long earned = 0;
            long count = 0;
            for (long[] reading : readings) {
                if (reading[0] % 100 / 6 == sheet) {
                    earned += reading[1];
                    count++;
                }
            }
            text.append("sheet ").append(sheet).append(": budget ").append(budgets[sheet]);
            text.append(", earned ").append(earned).append(", readOf ").append(count);
            text.append(", price ").append(prices[sheet]).append('\n');
        }
        for (int user = 0; user < 5; user++) {
            long caused = 0;
            for (long[] reading : readings) {
                caused += reading[0] / 10000 == user ? reading[1] : 0;
            }
            text.append("user ").append(user).append(" caused ").append(caused).append('\n');
        }
        Map<Integer, Long> anew = new HashMap<>();
        for (int cell : order()) {
            anew.put(cell, formulas.get(cell).comesTo(anew));
        }
        int[] counts = new int[2400];
        for (long[] reading : readings) {
            counts[(int) (reading[0] % 10000)]++;
        }
        for (int cell = 0; cell < 24; cell++) {
            text.append("cell ").append(cell).append(": ").append(values.get(cell));
            text.append(marked.contains(cell) ? " marked" : "").append(", anew ").append(anew.get(cell));
            for (int read = 0; read < 24; read++) {
                if (counts[100 * cell + read] != 0) {
                    text.append(", read ").append(read).append(" times ").append(counts[100 * cell + read]);
                }
            }
            text.append('\n');
        }
        int kept = Math.min(500, readings.size());
        for (int reading = 0; reading < kept; reading++) {
            text.append(readings.get(reading)[0]).append(' ');
        }
        return text.append("of ").append(kept).append(" readings\n").toString();
    }

    private static void range(long number, long least, long most) {
        if (number < least || number > most) {
            throw new IllegalArgumentException();
        }
    }

    private boolean reaches(int from, int cell) {
        if (from == cell) {
            return true;
        }
        for (int read : formulas.get(from).reads()) {
            if (reaches(read, cell)) {
                return true;
            }
        }
        return false;
    }

    private Set<Integer> order() {
        Set<Integer> order = new LinkedHashSet<>();
        while (order.size() < 24) {
            int next = 0;
            while (order.contains(next) || !order.containsAll(formulas.get(next).reads())) {
                next++;
            }
            order.add(next);
        }
        return order;
    }

    private long goThrough(int user, Set<Integer> changed, boolean alsoMarked) {
        long count = 0;
        for (int cell : order()) {
            boolean due = alsoMarked && marked.contains(cell);
            for (int read : formulas.get(cell).reads()) {
                due |= changed.contains(read);
            }
            if (due) {
                compute(user, cell, changed);
                count++;
            }
        }
        return count;
    }

    private void compute(int user, int cell, Set<Integer> changed) {
        List<long[]> due = new ArrayList<>();
        long cost = 0;
        for (int read : formulas.get(cell).reads()) {
            if (read / 6 != cell / 6) {
                due.add(new long[] {10000L * user + 100 * cell + read, prices[read / 6]});
                cost += prices[read / 6];
            }
        }
        if (budgets[cell / 6] < cost) {
            marked.add(cell);
            return;
        }
        budgets[cell / 6] -= cost;
        readings.addAll(due);
        marked.remove(cell);
        long result = formulas.get(cell).comesTo(values);
        if (result != values.put(cell, result)) {
            changed.add(cell);
        }
    }
}
