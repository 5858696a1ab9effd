import java.util.NoSuchElementException;
import java.util.function.Consumer;
import java.util.function.Supplier;

/**
 * Refused calls, a test for each sentence: the last lines of the section Terms, and promise 20. That a call
 * changes nothing is told by twins: one makes the call, the other does not, and all later answers are the same.
 */
public final class RefusedCallsTest {
    private static final int MIN = Integer.MIN_VALUE;
    private static final int MAX = Integer.MAX_VALUE;
    private static final int WAYS = 4;

    private static final Consumer<VersionedTables> NOTHING = x -> { };

    public static void main(String[] args) {
        notThereBeforeAllElse();
        notThereBeforeFullAndTooLate();
        numbersChangeNothing();
        transactionsChangeNothing();
        tablesChangeNothing();
        statementsChangeNothing();
        looksChangeNothing();
        linesChangeOnlyTheLine();
        tooLateBreaks();
        rangeBeforeWhatIsThere();
        rowBeforeColumn();
        settingsBehindAllRows();
        Due.finish();
    }

    private static final String BEFORE_ALL = "A TABLE or TRANSACTION that is not there (or not OPEN):"
        + " NoSuchElementException, before all else.";

    private static void notThereBeforeAllElse() {
        Due.sentence(BEFORE_ALL);
        VersionedTables x = Made.rows(4, 0, 1);
        x.insert(3, 0, 2, 2, 0, 0);
        x.abort(2);
        Due.where(x, "1/a=1");
        Due.setting(x, "d=1/0");
        int[] noTransaction = {MIN, -1, 0, 1, 2, 5, 40, 41, MAX};
        for (int t : noTransaction) {
            statementsFind(x, t, 0, "no transaction");
            statementsFind(x, t, 1, "neither");
        }
        int[] noTable = {MIN, -1, 1, 2, 3, MAX};
        for (int k : noTable) {
            statementsFind(x, 4, k, "no table");
        }
        Due.answer("4 is open", x.count(1), 2);
    }

    private static void statementsFind(VersionedTables x, int t, int k, String what) {
        String told = what + " (" + t + ", " + k + "): ";
        Due.refuses(told + "insert", NoSuchElementException.class, () -> x.insert(t, k, 1, 1, 1, 1));
        Due.refuses(told + "select", NoSuchElementException.class, () -> x.select(t, k));
        Due.refuses(told + "update", NoSuchElementException.class, () -> x.update(t, k));
        Due.refuses(told + "delete", NoSuchElementException.class, () -> x.delete(t, k));
    }

    private static void notThereBeforeFullAndTooLate() {
        Due.sentence(BEFORE_ALL);
        VersionedTables x = Made.fullTable(3);
        x.select(3, 0);
        x.commit(2);
        Due.refuses("before 24 rows", NoSuchElementException.class, () -> x.insert(2, 0, 1, 1, 1, 1));
        Due.refuses("before TOO LATE of update", NoSuchElementException.class, () -> x.update(2, 0));
        Due.refuses("before TOO LATE of delete", NoSuchElementException.class, () -> x.delete(2, 0));
        VersionedTables y = Made.rows(3, 1);
        y.select(3, 0);
        y.commit(2);
        Due.refuses("before TOO LATE of insert", NoSuchElementException.class, () -> y.insert(2, 0, 1, 1, 1, 1));
        Due.answer("none was broken", x.count(7) + y.count(7), 0);
    }

    private static final String NOTHING_CHANGES = "What throws changes nothing, but that TOO LATE breaks t, and what is"
        + " said of THE LINE.";

    /**
     * Table 0 with rows of 1 (done) and of 4 (open), a full table 1 with rows of 1 and of 2, table 2 is not there;
     * 2 to 6 are open but for 5, which is broken; a condition, two settings, a result and a line.
     */
    private static VersionedTables lively() {
        VersionedTables x = Made.rows(6, 0, 1, 2);
        x.create(1, 3);
        for (int row = 0; row < 24; row++) {
            x.insert(2, 1, row % 3, row, -row, 0);
        }
        x.insert(5, 0, 5, 5, 0, 0);
        x.abort(5);
        x.select(2, 0);
        x.insert(4, 0, 9, 9, 0, 0);
        Due.where(x, "a+1>1|b=0");
        Due.setting(x, "a=a+1");
        Due.setting(x, "b=a*b");
        Due.type(x, "b=7");
        return x;
    }

    private static void changesNothing(String what, Class<? extends RuntimeException> kind,
            Consumer<VersionedTables> before, Consumer<VersionedTables> call) {
        for (int way = 0; way < WAYS; way++) {
            VersionedTables x = lively();
            VersionedTables twin = lively();
            before.accept(x);
            before.accept(twin);
            Due.refuses(what, kind, () -> call.accept(x));
            Due.answer("errorAt after " + what, x.errorAt(), twin.errorAt());
            Due.answer("count(7) after " + what, x.count(7), twin.count(7));
            Due.same("way " + way + " after " + what, later(x, way), later(twin, way));
        }
    }

    /** What all that can be seen, and then one of the ways that the calls may go on, answers. */
    private static String later(VersionedTables x, int way) {
        StringBuilder told = new StringBuilder();
        look(x, told);
        for (int t = way == 1 ? 6 : 2; t >= 2 && t <= 6; t += way == 1 ? -1 : 1) {
            for (int k = 0; k < 3; k++) {
                statement(x, way, t, k, told);
            }
        }
        tell(told, () -> x.setting());
        tell(told, () -> x.update(6, 0));
        x.where();
        tell(told, () -> x.select(6, 0));
        look(x, told);
        tell(told, () -> x.vacuum());
        tell(told, () -> x.begin());
        return told.toString();
    }

    private static void statement(VersionedTables x, int way, int t, int k, StringBuilder told) {
        if (way == 0 || way == 1) {
            tell(told, () -> x.insert(t, k, 1, 2, 3, 4));
        }
        if (way == 0 || way == 2) {
            tell(told, () -> x.update(t, k));
        }
        if (way == 3) {
            tell(told, () -> x.select(t, k));
            tell(told, () -> x.count(3) == 0 ? "none" : x.result(0, 0));
            tell(told, () -> x.delete(t, k));
        }
    }

    private static void look(VersionedTables x, StringBuilder told) {
        for (int what = 0; what <= 10; what++) {
            int one = what;
            if (what != 7) {
                tell(told, () -> x.count(one));
            }
        }
        for (int i = 0; i < 4; i++) {
            for (int column = -1; column < 3; column++) {
                int row = i;
                int one = column;
                tell(told, () -> x.result(row, one));
            }
        }
        for (int row = 0; row < 6; row++) {
            int one = row;
            tell(told, () -> x.versions(0, one));
            tell(told, () -> x.versions(1, 4 * one));
        }
    }

    private static void tell(StringBuilder told, Supplier<Object> call) {
        try {
            told.append(call.get());
        } catch (RuntimeException e) {
            told.append(e.getClass().getSimpleName());
        }
        told.append(' ');
    }

    private static void numbersChangeNothing() {
        Due.sentence(NOTHING_CHANGES);
        changesNothing("create(-1, 1)", IllegalArgumentException.class, NOTHING, x -> x.create(-1, 1));
        changesNothing("create(3, 4)", IllegalArgumentException.class, NOTHING, x -> x.create(3, 4));
        changesNothing("create(2, 0)", IllegalArgumentException.class, NOTHING, x -> x.create(2, 0));
        changesNothing("create(2, 5)", IllegalArgumentException.class, NOTHING, x -> x.create(2, 5));
        changesNothing("create(0, 4)", IllegalStateException.class, NOTHING, x -> x.create(0, 4));
        changesNothing("create(1, 1)", IllegalStateException.class, NOTHING, x -> x.create(1, 1));
        changesNothing("type(-1)", IllegalArgumentException.class, NOTHING, x -> x.type(-1));
        changesNothing("type(128)", IllegalArgumentException.class, NOTHING, x -> x.type(128));
        changesNothing("the 41st character", IllegalStateException.class,
            x -> Due.type(x, "+7".repeat(18) + "+"), x -> x.type('7'));
    }

    private static void transactionsChangeNothing() {
        Due.sentence(NOTHING_CHANGES);
        changesNothing("the 41st begin", IllegalStateException.class, x -> Made.begin(x, 34), x -> x.begin());
        int[] none = {MIN, -1, 0, 1, 5, 7, 41, MAX};
        for (int t : none) {
            changesNothing("commit(" + t + ")", NoSuchElementException.class, NOTHING, x -> x.commit(t));
            changesNothing("abort(" + t + ")", NoSuchElementException.class, NOTHING, x -> x.abort(t));
        }
    }

    private static void tablesChangeNothing() {
        Due.sentence(NOTHING_CHANGES);
        int[][] none = {{1, 0}, {5, 0}, {7, 1}, {0, 0}, {-1, 0}, {3, 2}, {3, -1}, {6, 3}, {41, 0}};
        for (int[] one : none) {
            String told = "(" + one[0] + ", " + one[1] + ")";
            changesNothing("insert" + told, NoSuchElementException.class, NOTHING,
                x -> x.insert(one[0], one[1], 1, 2, 3, 4));
            changesNothing("select" + told, NoSuchElementException.class, NOTHING, x -> x.select(one[0], one[1]));
            changesNothing("update" + told, NoSuchElementException.class, NOTHING, x -> x.update(one[0], one[1]));
            changesNothing("delete" + told, NoSuchElementException.class, NOTHING, x -> x.delete(one[0], one[1]));
        }
    }

    private static void statementsChangeNothing() {
        Due.sentence(NOTHING_CHANGES);
        changesNothing("insert of the 25th", IllegalStateException.class, NOTHING, x -> x.insert(2, 1, 1, 1, 1, 1));
        changesNothing("select must wait", IllegalStateException.class, NOTHING, x -> x.select(6, 0));
        changesNothing("update must wait", IllegalStateException.class, NOTHING, x -> x.update(6, 0));
        changesNothing("delete must wait", IllegalStateException.class, NOTHING, x -> x.delete(6, 0));
        changesNothing("update of no column", IllegalArgumentException.class, RefusedCallsTest::setColumnD,
            x -> x.update(3, 0));
        changesNothing("a condition divides in select", ArithmeticException.class, x -> condition(x, "b/a=10"),
            x -> x.select(3, 0));
        changesNothing("a condition divides in update", ArithmeticException.class, x -> condition(x, "b/a=10"),
            x -> x.update(3, 0));
        changesNothing("a condition divides in delete", ArithmeticException.class, x -> condition(x, "b/a=10"),
            x -> x.delete(3, 0));
        changesNothing("row 2 divides in a condition", ArithmeticException.class, x -> condition(x, "1/c=0|a<9"),
            x -> x.select(2, 1));
        changesNothing("row 0 divides in a setting", ArithmeticException.class, x -> settingB(x, "b=b/a"),
            x -> x.update(3, 0));
        changesNothing("a later row divides in a setting", ArithmeticException.class, RefusedCallsTest::laterDivision,
            x -> x.update(2, 1));
    }

    private static void setColumnD(VersionedTables x) {
        x.setting();
        Due.setting(x, "d=1");
        Due.type(x, "b=7");
    }

    private static void condition(VersionedTables x, String text) {
        x.setting();
        Due.where(x, text);
        Due.type(x, "b=7");
    }

    private static void settingB(VersionedTables x, String text) {
        x.setting();
        x.where();
        Due.setting(x, text);
        Due.type(x, "a=7");
    }

    private static void laterDivision(VersionedTables x) {
        condition(x, "b>3");
        x.setting();
        Due.setting(x, "c=9/a");
        Due.type(x, "c=1");
    }

    private static void looksChangeNothing() {
        Due.sentence(NOTHING_CHANGES);
        changesNothing("result(-1, 0)", NoSuchElementException.class, NOTHING, x -> x.result(-1, 0));
        changesNothing("result(3, 0)", NoSuchElementException.class, NOTHING, x -> x.result(3, 0));
        changesNothing("result(0, 4)", IndexOutOfBoundsException.class, NOTHING, x -> x.result(0, 4));
        changesNothing("result(0, -2)", IndexOutOfBoundsException.class, NOTHING, x -> x.result(0, -2));
        changesNothing("mean(-1)", IndexOutOfBoundsException.class, NOTHING, x -> x.mean(-1));
        changesNothing("mean(4)", IndexOutOfBoundsException.class, NOTHING, x -> x.mean(4));
        changesNothing("mean of nothing", ArithmeticException.class, RefusedCallsTest::emptyResult, x -> x.mean(0));
        changesNothing("versions(2, 0)", NoSuchElementException.class, NOTHING, x -> x.versions(2, 0));
        changesNothing("versions(0, 5)", NoSuchElementException.class, NOTHING, x -> x.versions(0, 5));
        changesNothing("versions(1, 24)", NoSuchElementException.class, NOTHING, x -> x.versions(1, 24));
    }

    private static void emptyResult(VersionedTables x) {
        condition(x, "a>99");
        x.select(2, 0);
    }

    /** Both twins have an empty line before one of them types, since what is refused is emptied. */
    private static void linesChangeOnlyTheLine() {
        Due.sentence(NOTHING_CHANGES);
        String[] refused = {"b=7+", "b=7)", "b=7x", "b=7=7"};
        for (String text : refused) {
            for (int way = 0; way < 2 * WAYS; way++) {
                VersionedTables x = emptyLine();
                VersionedTables twin = emptyLine();
                Due.type(x, text);
                boolean condition = way < WAYS;
                Due.refuses(text, IllegalArgumentException.class, () -> takeLine(x, condition));
                Due.answer("errorAt of " + text, x.errorAt(), text.equals("b=7+") ? 4 : 3);
                Due.answer("the line is empty", x.count(4), 0);
                Due.same("after " + text, later(x, way % WAYS), later(twin, way % WAYS));
            }
        }
    }

    private static void takeLine(VersionedTables x, boolean asCondition) {
        if (asCondition) {
            x.where();
        } else {
            x.setting();
        }
    }

    private static VersionedTables emptyLine() {
        VersionedTables x = lively();
        x.setting();
        return x;
    }

    /** A transaction that TOO LATE breaks leaves what one leaves that is aborted, but for count(7). */
    private static void tooLateBreaks() {
        Due.sentence(NOTHING_CHANGES);
        breaks("insert", x -> x.insert(3, 0, 1, 1, 1, 1));
        breaks("update", x -> x.update(3, 0));
        breaks("delete", x -> x.delete(3, 0));
    }

    private static void breaks(String what, Consumer<VersionedTables> call) {
        for (int way = 0; way < WAYS; way++) {
            VersionedTables x = readLater();
            VersionedTables twin = readLater();
            Due.refuses(what, UnsupportedOperationException.class, () -> call.accept(x));
            Due.answer("abort", twin.abort(3), 1);
            Due.answer("count(7) after " + what, x.count(7), 1);
            Due.answer("errorAt after " + what, x.errorAt(), twin.errorAt());
            Due.same("way " + way + " after " + what, later(x, way), later(twin, way));
        }
    }

    /** 4 is done and 6 has read table 0; 3 has made a row in table 2. */
    private static VersionedTables readLater() {
        VersionedTables x = lively();
        x.commit(4);
        x.select(6, 0);
        x.create(2, 1);
        x.insert(3, 2, 1, 0, 0, 0);
        return x;
    }

    private static void rangeBeforeWhatIsThere() {
        Due.sentence("create, type: a number out of range is seen before what is there already.");
        for (int k = 0; k < 3; k++) {
            VersionedTables x = new VersionedTables();
            x.create(k, 2);
            int one = k;
            int[] noColumns = {MIN, -1, 0, 5, MAX};
            for (int columns : noColumns) {
                Due.refuses("create(" + k + ", " + columns + ")", IllegalArgumentException.class,
                    () -> x.create(one, columns));
            }
            Due.refuses("create(" + k + ", 1)", IllegalStateException.class, () -> x.create(one, 1));
            Due.refuses("create(" + k + ", 4)", IllegalStateException.class, () -> x.create(one, 4));
        }
        VersionedTables y = new VersionedTables();
        Due.type(y, "x".repeat(40));
        int[] noCharacter = {MIN, -1, 128, MAX};
        for (int c : noCharacter) {
            Due.refuses("type(" + c + ") at a full line", IllegalArgumentException.class, () -> y.type(c));
        }
        Due.refuses("type(0) at a full line", IllegalStateException.class, () -> y.type(0));
        Due.refuses("type(127) at a full line", IllegalStateException.class, () -> y.type(127));
    }

    private static void rowBeforeColumn() {
        Due.sentence("result: a ROW that is not there is seen before another column.");
        VersionedTables x = Made.rows(2, 1);
        int[] noColumn = {MIN, -2, 4, MAX};
        for (int column : noColumn) {
            Due.refuses("result(0, " + column + ") of none", NoSuchElementException.class, () -> x.result(0, column));
        }
        x.select(2, 0);
        for (int column : noColumn) {
            Due.refuses("result(1, " + column + ") of one", NoSuchElementException.class, () -> x.result(1, column));
            Due.refuses("result(-1, " + column + ") of one", NoSuchElementException.class,
                () -> x.result(-1, column));
            Due.refuses("result(0, " + column + ") of one", IndexOutOfBoundsException.class,
                () -> x.result(0, column));
        }
    }

    private static void settingsBehindAllRows() {
        Due.sentence("update: the SETTINGS are worked out only when all ROWS have been gone through: MUST WAIT of any ROW"
            + " comes before a division by 0 in a SETTING of any; of MUST WAIT and a division by 0 in the CONDITION the"
            + " one of the first ROW is told.");
        VersionedTables x = Made.fullTable(3);
        Due.where(x, "a=23");
        x.update(2, 0);
        x.where();
        Due.setting(x, "a=1/0");
        Due.refuses("the last row waits, all settings divide", IllegalStateException.class, () -> x.update(3, 0));
        Due.where(x, "1/a=1");
        Due.refuses("the first row divides, the last waits", ArithmeticException.class, () -> x.update(3, 0));
        Due.where(x, "9/b=1|a=0");
        Due.refuses("the first row divides, the last waits", ArithmeticException.class, () -> x.update(3, 0));
        x.commit(2);
        x.where();
        Due.refuses("none waits, all settings divide", ArithmeticException.class, () -> x.update(3, 0));
        VersionedTables y = Made.fullTable(3);
        Due.where(y, "a=0");
        y.update(2, 0);
        Due.where(y, "1/0=1");
        Due.refuses("the first row waits, the others divide", IllegalStateException.class, () -> y.update(3, 0));
        y.commit(2);
        Due.refuses("none waits, all divide", ArithmeticException.class, () -> y.update(3, 0));
    }
}
