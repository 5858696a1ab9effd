import java.util.ArrayList;
import java.util.List;
import java.util.Map;
import java.util.NoSuchElementException;
import java.util.TreeMap;

/**
 * The document once more, written for the tests alone and in another way: texts are worked out as they
 * stand by cutting them at their last sign, and versions are held in maps by their writers.
 */
final class Model {
    private enum State { OPEN, DONE, BROKEN }

    private record Version(int[] values, int[] read) {
        boolean gone() {
            return values == null;
        }
    }

    private record Found(int number, int[] values) {
    }

    private static final class Table {
        int columns;
        int scanned = 0;
        final List<TreeMap<Integer, Version>> rows = new ArrayList<>();
    }

    private final Map<Integer, Table> tables = new TreeMap<>();
    private final Map<Integer, State> transactions = new TreeMap<>();
    private final Map<Character, String> settings = new TreeMap<>();
    private String line = "";
    private String condition = "";
    private int errorAt = -1;
    private int tooLate = 0;
    private List<Found> result = new ArrayList<>();

    void create(int k, int columns) {
        check(k >= 0 && k <= 2 && columns >= 1 && columns <= 4, new IllegalArgumentException());
        check(!tables.containsKey(k), new IllegalStateException());
        Table table = new Table();
        table.columns = columns;
        tables.put(k, table);
    }

    int type(int c) {
        check(c >= 0 && c <= 127, new IllegalArgumentException());
        check(line.length() < 40, new IllegalStateException());
        line += (char) c;
        return line.length();
    }

    void where() {
        condition = taken(Grammar.conditionErrorAt(line));
    }

    int setting() {
        String text = taken(Grammar.settingErrorAt(line));
        settings.put(text.charAt(0), text.substring(2));
        return settings.size();
    }

    private String taken(int refusedAt) {
        String text = line;
        line = "";
        errorAt = refusedAt;
        check(refusedAt < 0, new IllegalArgumentException());
        return text;
    }

    int clear() {
        int there = settings.size();
        settings.clear();
        return there;
    }

    int errorAt() {
        return errorAt;
    }

    int begin() {
        check(transactions.size() < 40, new IllegalStateException());
        transactions.put(transactions.size() + 1, State.OPEN);
        return transactions.size();
    }

    void commit(int t) {
        check(isOpen(t), new NoSuchElementException());
        transactions.put(t, State.DONE);
    }

    int abort(int t) {
        check(isOpen(t), new NoSuchElementException());
        int before = allVersions();
        transactions.put(t, State.BROKEN);
        tables.values().forEach(table -> table.rows.forEach(row -> row.remove(t)));
        return before - allVersions();
    }

    int insert(int t, int k, int... values) {
        Table table = statementTable(t, k);
        check(table.rows.size() < 24, new IllegalStateException());
        breakUnless(table.scanned <= t, t);
        for (int column = table.columns; column < 4; column++) {
            values[column] = 0;
        }
        TreeMap<Integer, Version> row = new TreeMap<>();
        row.put(t, new Version(values, new int[] {t}));
        table.rows.add(row);
        return table.rows.size() - 1;
    }

    int select(int t, int k) {
        Table table = statementTable(t, k);
        List<Found> found = goThrough(t, table);
        read(t, table);
        result = found;
        return found.size();
    }

    int update(int t, int k) {
        Table table = statementTable(t, k);
        for (char column : settings.keySet()) {
            check(column - 'a' < table.columns, new IllegalArgumentException());
        }
        List<Found> changed = new ArrayList<>();
        for (Found old : goThrough(t, table)) {
            int[] values = old.values.clone();
            settings.forEach((column, term) -> values[column - 'a'] = term(term, old.values));
            changed.add(new Found(old.number, values));
        }
        return write(t, table, changed);
    }

    int delete(int t, int k) {
        Table table = statementTable(t, k);
        List<Found> gone = new ArrayList<>();
        for (Found old : goThrough(t, table)) {
            gone.add(new Found(old.number, null));
        }
        return write(t, table, gone);
    }

    int result(int i, int column) {
        check(i >= 0 && i < result.size(), new NoSuchElementException());
        check(column >= -1 && column <= 3, new IndexOutOfBoundsException());
        return column == -1 ? result.get(i).number : result.get(i).values[column];
    }

    double mean(int column) {
        check(column >= 0 && column <= 3, new IndexOutOfBoundsException());
        check(!result.isEmpty(), new ArithmeticException());
        return (double) result.stream().mapToLong(found -> found.values[column]).sum() / result.size();
    }

    int vacuum() {
        int before = allVersions();
        int least = 1;
        while (least <= transactions.size() && !isOpen(least)) {
            least++;
        }
        for (Table table : tables.values()) {
            for (TreeMap<Integer, Version> row : table.rows) {
                int bound = least;
                List<Integer> writers = new ArrayList<>(row.keySet());
                row.keySet().removeIf(old -> isDone(old)
                    && writers.stream().anyMatch(newer -> newer > old && isDone(newer) && newer <= bound));
            }
        }
        return before - allVersions();
    }

    int versions(int k, int row) {
        check(tables.containsKey(k) && row >= 0 && row < tables.get(k).rows.size(), new NoSuchElementException());
        return tables.get(k).rows.get(row).size();
    }

    int count(int what) {
        int[] counts = {transactions.size(), inState(State.OPEN), inState(State.DONE), result.size(), line.length(),
            settings.size(), allVersions(), tooLate, rows(0), rows(1), rows(2)};
        return what >= 0 && what < counts.length ? counts[what] : -1;
    }

    private static void check(boolean fine, RuntimeException otherwise) {
        if (!fine) {
            throw otherwise;
        }
    }

    boolean isOpen(int t) {
        return transactions.get(t) == State.OPEN;
    }

    private boolean isDone(int t) {
        return transactions.get(t) == State.DONE;
    }

    private int inState(State state) {
        return (int) transactions.values().stream().filter(one -> one == state).count();
    }

    private int rows(int k) {
        return tables.containsKey(k) ? tables.get(k).rows.size() : 0;
    }

    private int allVersions() {
        return tables.values().stream().flatMap(table -> table.rows.stream()).mapToInt(Map::size).sum();
    }

    private Table statementTable(int t, int k) {
        check(isOpen(t) && tables.containsKey(k), new NoSuchElementException());
        return tables.get(k);
    }

    private List<Found> goThrough(int t, Table table) {
        List<Found> found = new ArrayList<>();
        for (int number = 0; number < table.rows.size(); number++) {
            Map.Entry<Integer, Version> holding = table.rows.get(number).floorEntry(t);
            if (holding == null) {
                continue;
            }
            check(holding.getKey() == t || !isOpen(holding.getKey()), new IllegalStateException());
            Version version = holding.getValue();
            if (!version.gone() && (condition.isEmpty() || all(condition, version.values))) {
                found.add(new Found(number, version.values));
            }
        }
        return found;
    }

    private void read(int t, Table table) {
        table.scanned = Math.max(table.scanned, t);
        for (TreeMap<Integer, Version> row : table.rows) {
            Map.Entry<Integer, Version> holding = row.floorEntry(t);
            if (holding != null) {
                int[] read = holding.getValue().read;
                read[0] = Math.max(read[0], t);
            }
        }
    }

    private int write(int t, Table table, List<Found> written) {
        for (Found one : written) {
            breakUnless(table.rows.get(one.number).floorEntry(t).getValue().read[0] <= t, t);
        }
        read(t, table);
        for (Found one : written) {
            table.rows.get(one.number).put(t, new Version(one.values, new int[] {t}));
        }
        return written.size();
    }

    private void breakUnless(boolean inTime, int t) {
        if (!inTime) {
            abort(t);
            tooLate++;
            throw new UnsupportedOperationException();
        }
    }

    private static boolean all(String text, int[] values) {
        int cut = lastOutside(text, "&|");
        if (cut < 0) {
            return part(text, values);
        }
        boolean left = all(text.substring(0, cut), values);
        boolean right = part(text.substring(cut + 1), values);
        return text.charAt(cut) == '&' ? left && right : left || right;
    }

    private static boolean part(String text, int[] values) {
        if (text.charAt(0) == '!') {
            return !part(text.substring(1), values);
        }
        if (text.charAt(0) == '(') {
            return all(text.substring(1, text.length() - 1), values);
        }
        int cut = lastOutside(text, "=#<>");
        int left = term(text.substring(0, cut), values);
        int right = term(text.substring(cut + 1), values);
        switch (text.charAt(cut)) {
            case '=':
                return left == right;
            case '#':
                return left != right;
            case '<':
                return left < right;
            default:
                return left > right;
        }
    }

    private static int term(String text, int[] values) {
        int cut = lastOutside(text, "+-*/");
        if (cut < 0) {
            return Character.isDigit(text.charAt(0)) ? Integer.parseInt(text) : values[text.charAt(0) - 'a'];
        }
        int left = term(text.substring(0, cut), values);
        int right = term(text.substring(cut + 1), values);
        switch (text.charAt(cut)) {
            case '+':
                return left + right;
            case '-':
                return left - right;
            case '*':
                return left * right;
            default:
                return left / right;
        }
    }

    private static int lastOutside(String text, String signs) {
        int open = 0;
        for (int i = text.length() - 1; i >= 0; i--) {
            char character = text.charAt(i);
            open += character == ')' ? 1 : character == '(' ? -1 : 0;
            if (open == 0 && signs.indexOf(character) >= 0) {
                return i;
            }
        }
        return -1;
    }
}
