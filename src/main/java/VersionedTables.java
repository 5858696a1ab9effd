import java.util.NoSuchElementException;

/**
 * Tables whose rows have versions: each transaction sees the state of its time, and a write that comes
 * too late for what was read already ends its transaction. The words of the comments are the document's.
 */
public final class VersionedTables {

    private static final int TABLES = 3;
    private static final int COLUMNS = 4;
    private static final int ROWS = 24;
    private static final int TRANSACTIONS = 40;
    private static final int LINE = 40;
    private static final int CHARACTERS = 128;
    private static final int OPEN_BRACKETS = 5;
    private static final int DIGITS = 4;
    private static final int NO_ERROR = -1;
    private static final int ROW_NUMBER = -1;

    private final Table[] tables = new Table[TABLES];
    private final Transactions transactions = new Transactions();
    private final int[] line = new int[LINE];
    private int lineLength = 0;
    private int refusedAt = NO_ERROR;
    private Program condition = new Program();
    private final Program[] settings = new Program[COLUMNS];
    private RowSet found = new RowSet();
    private RowSet chosen = new RowSet();
    private final int[] oldValues = new int[COLUMNS];

    public VersionedTables() {
    }

    public void create(int k, int columns) throws IllegalArgumentException, IllegalStateException {
        if (k < 0 || k >= TABLES || columns < 1 || columns > COLUMNS) {
            throw new IllegalArgumentException("out of range");
        }
        if (tables[k] != null) {
            throw new IllegalStateException("the table is there");
        }
        tables[k] = new Table(columns);
    }

    public int type(int c) throws IllegalArgumentException, IllegalStateException {
        if (c < 0 || c >= CHARACTERS) {
            throw new IllegalArgumentException("no such character");
        }
        if (lineLength >= LINE) {
            throw new IllegalStateException("the line is full");
        }
        line[lineLength] = c;
        lineLength++;
        return lineLength;
    }

    public void where() throws IllegalArgumentException {
        Parser parser = new Parser(line, lineLength);
        takeLine(parser, parser.readCondition());
        condition = parser.program;
    }

    public int setting() throws IllegalArgumentException {
        Parser parser = new Parser(line, lineLength);
        takeLine(parser, parser.readSetting());
        settings[parser.column] = parser.program;
        return settingsThere();
    }

    public int clear() {
        int there = settingsThere();
        for (int column = 0; column < COLUMNS; column++) {
            settings[column] = null;
        }
        return there;
    }

    public int errorAt() {
        return refusedAt;
    }

    public int begin() throws IllegalStateException {
        if (transactions.begun >= TRANSACTIONS) {
            throw new IllegalStateException("no transaction is left");
        }
        return transactions.beginNext();
    }

    public void commit(int t) throws NoSuchElementException {
        mustBeOpen(t);
        transactions.end(t, State.DONE);
    }

    public int abort(int t) throws NoSuchElementException {
        mustBeOpen(t);
        return breakOff(t);
    }

    public int insert(int t, int k, int a, int b, int c, int d)
            throws NoSuchElementException, IllegalStateException, UnsupportedOperationException {
        mustBeOpen(t);
        Table table = tableThere(k);
        if (table.made >= ROWS) {
            throw new IllegalStateException("no row is left");
        }
        if (table.scanned > t) {
            breakTooLate(t);
            throw new UnsupportedOperationException("too late");
        }
        return table.addRow(t, a, b, c, d);
    }

    public int select(int t, int k) throws NoSuchElementException, IllegalStateException, ArithmeticException {
        mustBeOpen(t);
        Table table = tableThere(k);
        choose(t, table);
        table.markRead(t);
        RowSet spare = found;
        found = chosen;
        chosen = spare;
        return found.size;
    }

    public int update(int t, int k) throws NoSuchElementException, IllegalArgumentException,
            IllegalStateException, ArithmeticException, UnsupportedOperationException {
        mustBeOpen(t);
        Table table = tableThere(k);
        refuseSettingsBeyond(table.columns);
        choose(t, table);
        workOutSettings();
        write(t, table, false);
        return chosen.size;
    }

    public int delete(int t, int k) throws NoSuchElementException, IllegalStateException,
            ArithmeticException, UnsupportedOperationException {
        mustBeOpen(t);
        Table table = tableThere(k);
        choose(t, table);
        write(t, table, true);
        return chosen.size;
    }

    public int result(int i, int column) throws NoSuchElementException, IndexOutOfBoundsException {
        if (i < 0 || i >= found.size) {
            throw new NoSuchElementException("no such row of the result");
        }
        if (column == ROW_NUMBER) {
            return found.numbers[i];
        }
        mustBeColumn(column);
        return found.values[i][column];
    }

    public double mean(int column) throws IndexOutOfBoundsException, ArithmeticException {
        mustBeColumn(column);
        if (found.size == 0) {
            throw new ArithmeticException("the result is empty");
        }
        return (double) found.sum(column) / found.size;
    }

    public int vacuum() {
        int newest = transactions.leastOpen();
        int gone = 0;
        for (int k = 0; k < TABLES; k++) {
            if (tables[k] != null) {
                gone += sweep(tables[k], newest);
            }
        }
        return gone;
    }

    public int versions(int k, int row) throws NoSuchElementException {
        Table table = tableThere(k);
        if (row < 0 || row >= table.made) {
            throw new NoSuchElementException("no such row");
        }
        return table.rows[row].size();
    }

    public int count(int what) {
        switch (what) {
            case 0:
                return transactions.begun;
            case 1:
                return transactions.howMany(State.OPEN);
            case 2:
                return transactions.howMany(State.DONE);
            case 3:
                return found.size;
            case 4:
                return lineLength;
            case 5:
                return settingsThere();
            case 6:
                return allVersions();
            case 7:
                return transactions.brokenTooLate;
            case 8:
            case 9:
            case 10:
                return rowsMade(what - 8);
            default:
                return -1;
        }
    }

    private void takeLine(Parser parser, boolean taken) {
        lineLength = 0;
        refusedAt = taken ? NO_ERROR : parser.at;
        if (!taken) {
            throw new IllegalArgumentException("the line is refused");
        }
    }

    private int settingsThere() {
        int there = 0;
        for (int column = 0; column < COLUMNS; column++) {
            if (settings[column] != null) {
                there++;
            }
        }
        return there;
    }

    private void mustBeOpen(int t) {
        if (!transactions.is(t, State.OPEN)) {
            throw new NoSuchElementException("no such open transaction");
        }
    }

    private Table tableThere(int k) {
        if (k < 0 || k >= TABLES || tables[k] == null) {
            throw new NoSuchElementException("no such table");
        }
        return tables[k];
    }

    private void mustBeColumn(int column) {
        if (column < 0 || column >= COLUMNS) {
            throw new IndexOutOfBoundsException("no such column");
        }
    }

    private void refuseSettingsBeyond(int columns) {
        for (int column = columns; column < COLUMNS; column++) {
            if (settings[column] != null) {
                throw new IllegalArgumentException("a setting of a column that the table does not have");
            }
        }
    }

    /** Changes nothing that a caller can see, so that whatever throws in it leaves all as it was. */
    private void choose(int t, Table table) {
        chosen.size = 0;
        for (int row = 0; row < table.made; row++) {
            Version version = table.rows[row].holding(t);
            if (version != null) {
                if (version.writer != t && transactions.is(version.writer, State.OPEN)) {
                    throw new IllegalStateException("must wait");
                }
                if (!version.gone && condition.holds(version.values)) {
                    chosen.add(row, version.values);
                }
            }
        }
    }

    private void workOutSettings() {
        for (int i = 0; i < chosen.size; i++) {
            int[] values = chosen.values[i];
            System.arraycopy(values, 0, oldValues, 0, COLUMNS);
            for (int column = 0; column < COLUMNS; column++) {
                Program setting = settings[column];
                if (setting != null) {
                    values[column] = setting.work(oldValues);
                }
            }
        }
    }

    private void write(int t, Table table, boolean gone) {
        if (isTooLate(t, table)) {
            breakTooLate(t);
            throw new UnsupportedOperationException("too late");
        }
        table.markRead(t);
        for (int i = 0; i < chosen.size; i++) {
            table.rows[chosen.numbers[i]].write(t, chosen.values[i], gone);
        }
    }

    private boolean isTooLate(int t, Table table) {
        for (int i = 0; i < chosen.size; i++) {
            Version version = table.rows[chosen.numbers[i]].holding(t);
            if (version != null && version.read > t) {
                return true;
            }
        }
        return false;
    }

    private void breakTooLate(int t) {
        breakOff(t);
        transactions.brokenTooLate++;
    }

    private int breakOff(int t) {
        transactions.end(t, State.BROKEN);
        int gone = 0;
        for (int k = 0; k < TABLES; k++) {
            if (tables[k] != null) {
                gone += tables[k].dropAllOf(t);
            }
        }
        return gone;
    }

    private int sweep(Table table, int newest) {
        int gone = 0;
        for (int row = 0; row < table.made; row++) {
            gone += sweepRow(table.rows[row], newest);
        }
        return gone;
    }

    /** What is older than the version that stays goes, if no open transaction wrote it. */
    private int sweepRow(Row row, int newest) {
        int kept = newest;
        while (kept > 0 && !(row.has(kept) && transactions.is(kept, State.DONE))) {
            kept--;
        }
        int gone = 0;
        for (int writer = 1; writer < kept; writer++) {
            if (transactions.is(writer, State.DONE)) {
                gone += row.drop(writer);
            }
        }
        return gone;
    }

    private int allVersions() {
        int all = 0;
        for (int k = 0; k < TABLES; k++) {
            if (tables[k] != null) {
                all += tables[k].versionsThere();
            }
        }
        return all;
    }

    private int rowsMade(int k) {
        Table table = tables[k];
        return table == null ? 0 : table.made;
    }

    private enum State { OPEN, DONE, BROKEN }

    /** The transactions 1 .. begun. */
    private static final class Transactions {
        private final State[] states = new State[TRANSACTIONS + 1];
        private int begun = 0;
        private int brokenTooLate = 0;

        private int beginNext() {
            begun++;
            states[begun] = State.OPEN;
            return begun;
        }

        private void end(int t, State state) {
            states[t] = state;
        }

        private boolean is(int t, State state) {
            return t >= 1 && t <= begun && states[t] == state;
        }

        private int howMany(State state) {
            int many = 0;
            for (int t = 1; t <= begun; t++) {
                if (states[t] == state) {
                    many++;
                }
            }
            return many;
        }

        /** The newest one if none is open: then no writer is above it. */
        private int leastOpen() {
            for (int t = 1; t <= begun; t++) {
                if (states[t] == State.OPEN) {
                    return t;
                }
            }
            return begun;
        }
    }

    private static final class Table {
        private final int columns;
        private final Row[] rows = new Row[ROWS];
        private int made = 0;
        private int scanned = 0;

        private Table(int columns) {
            this.columns = columns;
            for (int row = 0; row < ROWS; row++) {
                rows[row] = new Row();
            }
        }

        private int addRow(int t, int a, int b, int c, int d) {
            int[] values = {a, b, c, d};
            for (int column = columns; column < COLUMNS; column++) {
                values[column] = 0;
            }
            rows[made].write(t, values, false);
            made++;
            return made - 1;
        }

        private int dropAllOf(int writer) {
            int gone = 0;
            for (int row = 0; row < made; row++) {
                gone += rows[row].drop(writer);
            }
            return gone;
        }

        private int versionsThere() {
            int there = 0;
            for (int row = 0; row < made; row++) {
                there += rows[row].size();
            }
            return there;
        }

        private void markRead(int t) {
            scanned = Math.max(scanned, t);
            for (int row = 0; row < made; row++) {
                Version version = rows[row].holding(t);
                if (version != null) {
                    version.read = Math.max(version.read, t);
                }
            }
        }
    }

    /** A row's versions stand at their writers' numbers, since no two of them have the same writer. */
    private static final class Row {
        private final Version[] byWriter = new Version[TRANSACTIONS + 1];

        private boolean has(int writer) {
            return byWriter[writer] != null;
        }

        private Version holding(int t) {
            for (int writer = t; writer > 0; writer--) {
                if (byWriter[writer] != null) {
                    return byWriter[writer];
                }
            }
            return null;
        }

        private void write(int t, int[] values, boolean gone) {
            if (byWriter[t] == null) {
                byWriter[t] = new Version(t);
            }
            byWriter[t].put(values, gone);
        }

        private int drop(int writer) {
            int dropped = has(writer) ? 1 : 0;
            byWriter[writer] = null;
            return dropped;
        }

        private int size() {
            int size = 0;
            for (int writer = 1; writer <= TRANSACTIONS; writer++) {
                if (has(writer)) {
                    size++;
                }
            }
            return size;
        }
    }

    private static final class Version {
        private final int writer;
        private final int[] values = new int[COLUMNS];
        private int read;
        private boolean gone = false;

        private Version(int writer) {
            this.writer = writer;
            this.read = writer;
        }

        private void put(int[] newValues, boolean isGone) {
            System.arraycopy(newValues, 0, values, 0, COLUMNS);
            gone = isGone;
        }
    }

    /** Rows of one table with values of their own, so that later writes leave them alone. */
    private static final class RowSet {
        private final int[] numbers = new int[ROWS];
        private final int[][] values = new int[ROWS][COLUMNS];
        private int size = 0;

        private void add(int number, int[] rowValues) {
            if (size < ROWS) {
                numbers[size] = number;
                System.arraycopy(rowValues, 0, values[size], 0, COLUMNS);
                size++;
            }
        }

        private long sum(int column) {
            long sum = 0;
            for (int i = 0; i < size; i++) {
                sum += values[i][column];
            }
            return sum;
        }
    }

    /**
     * A condition or a term as steps in the order they are worked out: the two sides before their sign.
     * A step below CHARACTERS is a column or a sign, another one is a number that far above it.
     */
    private static final class Program {
        private final int[] steps = new int[LINE];
        private final int[] stack = new int[LINE];
        private int size = 0;
        private int height = 0;

        private void add(int step) {
            if (size < LINE) {
                steps[size] = step;
                size++;
            }
        }

        private boolean holds(int[] values) {
            return size == 0 || work(values) != 0;
        }

        private int work(int[] values) {
            height = 0;
            for (int i = 0; i < size; i++) {
                push(workStep(steps[i], values));
            }
            return pop();
        }

        private int workStep(int step, int[] values) {
            if (step >= CHARACTERS) {
                return step - CHARACTERS;
            }
            if (isColumn(step)) {
                return values[step - 'a'];
            }
            int right = pop();
            if (step == '!') {
                return truth(right == 0);
            }
            return combine(step, pop(), right);
        }

        private void push(int value) {
            if (height < LINE) {
                stack[height] = value;
                height++;
            }
        }

        private int pop() {
            if (height == 0) {
                return 0;
            }
            height--;
            return stack[height];
        }

        private static int combine(int sign, int left, int right) {
            switch (sign) {
                case '+':
                    return left + right;
                case '-':
                    return left - right;
                case '*':
                    return left * right;
                case '/':
                    return divide(left, right);
                case '=':
                    return truth(left == right);
                case '#':
                    return truth(left != right);
                case '<':
                    return truth(left < right);
                case '>':
                    return truth(left > right);
                case '&':
                    return left & right;
                default:
                    return left | right;
            }
        }

        private static int divide(int left, int right) {
            if (right == 0) {
                throw new ArithmeticException("division by 0");
            }
            return left / right;
        }

        private static int truth(boolean holds) {
            return holds ? 1 : 0;
        }

        private static boolean isColumn(int character) {
            return character >= 'a' && character < 'a' + COLUMNS;
        }
    }

    /**
     * Reads a text from the left and goes past a character only if some text goes on after it, so that
     * a refused text leaves it at the first character that no text has there, or at the end.
     */
    private static final class Parser {
        private static final int END = -1;

        private final int[] text;
        private final int length;
        private final Program program = new Program();
        private int at = 0;
        private int column = 0;

        private Parser(int[] text, int length) {
            this.text = text;
            this.length = length;
        }

        private boolean readCondition() {
            return length == 0 || (readAll(0) && at == length);
        }

        private boolean readSetting() {
            if (!Program.isColumn(next())) {
                return false;
            }
            column = next() - 'a';
            at++;
            return skip('=') && readTerm() && at == length;
        }

        private boolean readAll(int open) {
            boolean fine = readPart(open);
            for (int i = 0; i < LINE && fine && isJoin(next()); i++) {
                int sign = next();
                at++;
                fine = readPart(open);
                program.add(sign);
            }
            return fine;
        }

        private boolean readPart(int open) {
            int first = next();
            if (first != '(' && first != '!') {
                return readComparison();
            }
            if (open >= OPEN_BRACKETS) {
                return false;
            }
            at++;
            if (first == '(') {
                return readAll(open + 1) && skip(')');
            }
            boolean fine = readPart(open + 1);
            program.add('!');
            return fine;
        }

        private boolean readComparison() {
            if (!readTerm()) {
                return false;
            }
            int sign = next();
            if (!isComparison(sign)) {
                return false;
            }
            at++;
            boolean fine = readTerm();
            program.add(sign);
            return fine;
        }

        private boolean readTerm() {
            boolean fine = readItem();
            for (int i = 0; i < LINE && fine && isCalculation(next()); i++) {
                int sign = next();
                at++;
                fine = readItem();
                program.add(sign);
            }
            return fine;
        }

        private boolean readItem() {
            if (Program.isColumn(next())) {
                program.add(next());
                at++;
                return true;
            }
            int number = 0;
            int digits = 0;
            while (digits < DIGITS && isDigit(next())) {
                number = number * 10 + next() - '0';
                at++;
                digits++;
            }
            program.add(CHARACTERS + number);
            return digits > 0;
        }

        private boolean skip(int character) {
            if (next() != character) {
                return false;
            }
            at++;
            return true;
        }

        private int next() {
            return at < length ? text[at] : END;
        }

        private static boolean isJoin(int character) {
            return character == '&' || character == '|';
        }

        private static boolean isComparison(int character) {
            return character == '=' || character == '#' || character == '<' || character == '>';
        }

        private static boolean isCalculation(int character) {
            return character == '+' || character == '-' || character == '*' || character == '/';
        }

        private static boolean isDigit(int character) {
            return character >= '0' && character <= '9';
        }
    }
}
