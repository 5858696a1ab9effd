import java.util.NoSuchElementException;

/**
 * Boundary cases of statements, a test for each sentence: the last third of the section Terms, and the
 * promises 11 to 14. What a refused call leaves as it was stands in RefusedCallsTest.
 */
public final class StatementBoundariesTest {
    private static final int MIN = Integer.MIN_VALUE;
    private static final int MAX = Integer.MAX_VALUE;

    public static void main(String[] args) {
        rowsInOrder();
        mustWait();
        goneIsNotWorkedOut();
        scannedAndRead();
        selectsValues();
        updatesOldValues();
        deletesAsGone();
        writingTooLate();
        writingOwnVersions();
        tooLateForOneRow();
        insertScanned();
        waitAndTooLate();
        firstRowTold();
        insertValues();
        insertTooLate();
        insertFull();
        selectCounts();
        updateCounts();
        updateColumns();
        deleteCounts();
        Due.finish();
    }

    private static void rowsInOrder() {
        Due.sentence("A STATEMENT of an OPEN TRANSACTION t over a TABLE: the ROWS are gone through in order.");
        VersionedTables x = Made.table(1, 2);
        Due.where(x, "1/0=1");
        Due.answer("no rows: select", x.select(1, 0), 0);
        Due.answer("no rows: update", x.update(1, 0), 0);
        Due.answer("no rows: delete", x.delete(1, 0), 0);
        VersionedTables y = Made.fullTable(2);
        Due.answer("all 24 rows", y.select(2, 0), 24);
        for (int i = 0; i < 24; i++) {
            Due.answer("row " + i, y.result(i, -1), i);
        }
        VersionedTables z = Made.rows(4, 4, 0, 8);
        Due.where(z, "a=8");
        z.update(2, 0);
        Due.where(z, "8/a=1");
        Due.refuses("row 1 divides, row 2 would wait", ArithmeticException.class, () -> z.select(3, 0));
        Due.refuses("row 1 divides, row 2 would wait", ArithmeticException.class, () -> z.delete(3, 0));
        Due.where(z, "8/b=1|a#0");
        Due.refuses("row 1 divides, row 2 would wait", ArithmeticException.class, () -> z.update(3, 0));
    }

    private static void mustWait() {
        Due.sentence("Of each the VERSION that HOLDS, if there is one: is its WRITER OPEN and not t: MUST WAIT.");
        VersionedTables x = Made.table(1, 4);
        x.insert(2, 0, 5, 0, 0, 0);
        Due.answer("1 is before it", x.select(1, 0), 0);
        Due.answer("2 wrote it", x.select(2, 0), 1);
        Due.refuses("3 is behind it", IllegalStateException.class, () -> x.select(3, 0));
        Due.refuses("4 is behind it", IllegalStateException.class, () -> x.delete(4, 0));
        Due.where(x, "a=9");
        Due.refuses("the condition is not looked at", IllegalStateException.class, () -> x.update(3, 0));
        x.where();
        x.delete(2, 0);
        Due.refuses("a gone one makes wait too", IllegalStateException.class, () -> x.select(3, 0));
        x.commit(2);
        Due.answer("its writer is done", x.select(3, 0), 0);
        VersionedTables y = Made.table(1, 3);
        y.insert(2, 0, 5, 0, 0, 0);
        y.abort(2);
        Due.answer("its writer is broken: no version", y.select(3, 0), 0);
        VersionedTables z = Made.fullTable(3);
        Due.where(z, "a=23");
        z.update(2, 0);
        Due.where(z, "a=0");
        Due.refuses("the last of 24 rows", IllegalStateException.class, () -> z.select(3, 0));
    }

    private static void goneIsNotWorkedOut() {
        Due.sentence("Is it not GONE, the CONDITION is worked out for its values.");
        VersionedTables x = Made.rows(3, 0, 4);
        Due.where(x, "a=0");
        Due.answer("row 0 is gone", x.delete(2, 0), 1);
        Due.where(x, "4/a=1");
        Due.answer("for its writer", x.select(2, 0), 1);
        x.commit(2);
        Due.answer("for a later one", x.select(3, 0), 1);
        Due.answer("row 1", x.result(0, -1), 1);
        x.where();
        Due.answer("not even the empty condition holds", x.select(3, 0), 1);
        Due.answer("it is not written again", x.delete(3, 0), 1);
        Due.answer("two versions of it", x.versions(0, 0), 2);
        Due.setting(x, "a=7/a");
        Due.answer("no setting is worked out", x.update(3, 0), 0);
    }

    private static void scannedAndRead() {
        Due.sentence("Only if no ROW has made the STATEMENT throw, things are done: the TABLE was SCANNED at t, if that"
            + " is later than it was; all VERSIONS that HOLD were READ at t, if that is later.");
        for (int kind = 0; kind < 3; kind++) {
            VersionedTables x = statementAt(kind, 4);
            Due.refuses("scanned: insert at 3", UnsupportedOperationException.class,
                () -> x.insert(3, 0, 0, 0, 0, 0));
            Due.refuses("read: delete at 2", UnsupportedOperationException.class, () -> x.delete(2, 0));
            Due.answer("insert at 4", x.insert(4, 0, 7, 0, 0, 0), 2);
            Due.answer("delete at 4", x.delete(4, 0), 3);
            VersionedTables y = statementAt(kind, 4);
            statement(y, kind, 2);
            Due.refuses("an earlier scan leaves it", UnsupportedOperationException.class,
                () -> y.insert(3, 0, 0, 0, 0, 0));
            VersionedTables z = statementAt(kind, 4);
            statement(z, kind, 2);
            Due.where(z, "a=1");
            Due.refuses("an earlier read leaves it", UnsupportedOperationException.class, () -> z.delete(3, 0));
            Due.answer("delete at 5", z.delete(5, 0), 1);
        }
        VersionedTables waiting = Made.rows(4, 1);
        waiting.insert(2, 0, 2, 0, 0, 0);
        Due.refuses("row 1 must wait", IllegalStateException.class, () -> waiting.select(4, 0));
        Due.answer("not scanned", waiting.insert(3, 0, 3, 0, 0, 0), 2);
        Due.where(waiting, "a=1");
        Due.answer("not read", waiting.delete(2, 0), 1);
        VersionedTables dividing = Made.rows(4, 1, 0);
        Due.where(dividing, "1/a=1");
        Due.refuses("row 1 divides", ArithmeticException.class, () -> dividing.select(4, 0));
        Due.answer("not scanned", dividing.insert(3, 0, 3, 0, 0, 0), 2);
        Due.where(dividing, "a=1");
        Due.answer("not read", dividing.delete(2, 0), 1);
    }

    /** Rows a = 1 and a = 2 of 1, and a statement of t for which no row holds. */
    private static VersionedTables statementAt(int kind, int t) {
        VersionedTables x = Made.rows(5, 1, 2);
        Due.where(x, "a=9");
        statement(x, kind, t);
        x.where();
        return x;
    }

    private static void statement(VersionedTables x, int kind, int t) {
        Due.where(x, "a=9");
        int rows = kind == 0 ? x.select(t, 0) : kind == 1 ? x.update(t, 0) : x.delete(t, 0);
        Due.answer("no row holds", rows, 0);
        x.where();
    }

    private static void selectsValues() {
        Due.sentence("SELECT: the ROWS for which it holds are the RESULT, with these values.");
        VersionedTables x = Made.rows(3, 5, 6, 7);
        Due.where(x, "a#6");
        Due.answer("two of three", x.select(2, 0), 2);
        Due.answer("row 2", x.result(1, -1), 2);
        Due.setting(x, "a=1");
        x.update(2, 0);
        Due.answer("its values stay after an update", x.result(1, 0), 7);
        x.abort(2);
        x.vacuum();
        Due.answer("its values stay after abort", x.result(1, 1), 70);
        Due.where(x, "a=6");
        Due.answer("a smaller result", x.select(3, 0), 1);
        Due.refuses("has no second row", NoSuchElementException.class, () -> x.result(1, 0));
        Due.where(x, "a=9");
        Due.answer("an empty one", x.select(3, 0), 0);
        Due.refuses("has no first row", NoSuchElementException.class, () -> x.result(0, 0));
    }

    private static void updatesOldValues() {
        Due.sentence("UPDATE: for each of these ROWS, in order, all SETTINGS are worked out for the old values (this too"
            + " before things are done), and it is WRITTEN with the new ones.");
        VersionedTables x = Made.rows(4, 1, 2);
        Due.setting(x, "b=a");
        Due.setting(x, "a=b");
        x.update(2, 0);
        x.select(2, 0);
        Due.answer("a was b", x.result(1, 0), 20);
        Due.answer("b was a", x.result(1, 1), 2);
        VersionedTables y = Made.rows(4, 1, 2, 0);
        Due.setting(y, "a=2/a");
        Due.refuses("the last row divides", ArithmeticException.class, () -> y.update(4, 0));
        Due.answer("not scanned at 4", y.insert(3, 0, 3, 0, 0, 0), 3);
        Due.answer("no version", y.count(6), 4);
        Due.where(y, "a>0");
        Due.answer("not read at 4", y.update(2, 0), 2);
        y.select(2, 0);
        Due.answer("the first row was not written", y.result(0, 0), 2);
        VersionedTables z = Made.rows(2, 0, 4);
        Due.setting(z, "a=8/a");
        Due.where(z, "a>0");
        Due.answer("rows that do not hold are not worked out", z.update(2, 0), 1);
        Due.setting(z, "a=a");
        Due.setting(z, "b=8/a-8/a");
        z.where();
        Due.refuses("another setting divides", ArithmeticException.class, () -> z.update(2, 0));
    }

    private static void deletesAsGone() {
        Due.sentence("DELETE: each of them is WRITTEN as GONE.");
        VersionedTables x = Made.rows(3, 1, 2);
        Due.answer("both", x.delete(3, 0), 2);
        Due.answer("each has a version more", x.count(6), 4);
        Due.answer("none is seen", x.select(3, 0), 0);
        Due.answer("none is there to delete", x.delete(3, 0), 0);
        Due.answer("2 sees both", x.select(2, 0), 2);
        Due.answer("abort", x.abort(3), 2);
        x.begin();
        Due.answer("both are back", x.select(4, 0), 2);
    }

    private static void writingTooLate() {
        Due.sentence("WRITING a ROW at t: the VERSION that HOLDS was READ later than t: TOO LATE.");
        VersionedTables x = Made.rows(5, 1);
        x.select(3, 0);
        Due.refuses("read at 3, written at 2", UnsupportedOperationException.class, () -> x.update(2, 0));
        Due.answer("read at 3, written at 3", x.update(3, 0), 1);
        x.commit(3);
        Due.answer("read at 3, written at 4", x.delete(4, 0), 1);
        VersionedTables y = Made.rows(3, 1);
        y.select(3, 0);
        y.commit(3);
        Due.refuses("its reader is done", UnsupportedOperationException.class, () -> y.delete(2, 0));
        VersionedTables z = Made.rows(40, 1);
        z.select(40, 0);
        z.abort(40);
        Due.refuses("its reader is broken", UnsupportedOperationException.class, () -> z.delete(39, 0));
        VersionedTables own = Made.table(1, 3);
        own.insert(2, 0, 1, 0, 0, 0);
        own.insert(3, 0, 1, 0, 0, 0);
        Due.answer("its own row; the row of 3 does not hold", own.update(2, 0), 1);
    }

    private static void writingOwnVersions() {
        Due.sentence("Is its WRITER t, it has the new values; else there is a new VERSION of t, READ at t.");
        VersionedTables x = Made.rows(3, 1);
        Due.setting(x, "a=a+1");
        Due.answer("a new version", x.update(2, 0), 1);
        Due.answer("two", x.versions(0, 0), 2);
        Due.answer("the new values", x.update(2, 0), 1);
        Due.answer("two still", x.versions(0, 0), 2);
        x.select(2, 0);
        Due.answer("both were added", x.result(0, 0), 3);
        x.commit(2);
        Due.answer("read at 2, written at 3", x.update(3, 0), 1);
        Due.answer("three", x.versions(0, 0), 3);
        Due.answer("as gone", x.delete(3, 0), 1);
        Due.answer("three still", x.versions(0, 0), 3);
    }

    private static void tooLateForOneRow() {
        Due.sentence("TOO LATE for one ROW: nothing of the STATEMENT is done, but t is BROKEN.");
        VersionedTables x = Made.fullTable(4);
        x.create(1, 1);
        x.insert(3, 1, 1, 0, 0, 0);
        x.select(4, 0);
        Due.where(x, "a=23");
        Due.refuses("one of 24 rows", UnsupportedOperationException.class, () -> x.update(3, 0));
        Due.answer("no row is written", x.count(6), 24);
        Due.answer("3 is not open", x.count(1), 2);
        Due.answer("3 is not done", x.count(2), 1);
        Due.refuses("3 is broken", NoSuchElementException.class, () -> x.commit(3));
        x.where();
        Due.refuses("all 24 rows", UnsupportedOperationException.class, () -> x.delete(2, 0));
        Due.answer("two are broken", x.count(7), 2);
        Due.answer("4 sees all", x.select(4, 0), 24);
    }

    private static void insertScanned() {
        Due.sentence("INSERT: was the TABLE SCANNED later than t: TOO LATE; else a new ROW with one VERSION of t.");
        VersionedTables x = Made.table(1, 4);
        x.insert(4, 0, 1, 0, 0, 0);
        Due.answer("an insert is no scan", x.insert(3, 0, 1, 0, 0, 0), 1);
        x.select(2, 0);
        Due.answer("scanned at 2, insert at 2", x.insert(2, 0, 1, 0, 0, 0), 2);
        Due.answer("one version", x.versions(0, 2), 1);
        Due.refuses("scanned at 2, insert at 1", UnsupportedOperationException.class,
            () -> x.insert(1, 0, 1, 0, 0, 0));
        Due.answer("no row was made", x.count(8), 3);
        Due.answer("scanned at 2, insert at 3", x.insert(3, 0, 1, 0, 0, 0), 3);
        Due.answer("of 3: two go", x.abort(3), 2);
        VersionedTables y = Made.table(1, 3);
        Due.answer("a table without rows is scanned too", y.delete(3, 0), 0);
        Due.refuses("insert at 2", UnsupportedOperationException.class, () -> y.insert(2, 0, 1, 0, 0, 0));
    }

    private static void waitAndTooLate() {
        Due.sentence("MUST WAIT: IllegalStateException. TOO LATE: UnsupportedOperationException.");
        VersionedTables x = Made.rows(3, 1);
        x.update(2, 0);
        Due.refuses("select must wait", IllegalStateException.class, () -> x.select(3, 0));
        Due.refuses("update must wait", IllegalStateException.class, () -> x.update(3, 0));
        Due.refuses("delete must wait", IllegalStateException.class, () -> x.delete(3, 0));
        Due.answer("insert need not", x.insert(3, 0, 1, 0, 0, 0), 1);
        VersionedTables y = Made.rows(5, 1);
        y.select(5, 0);
        Due.refuses("update is too late", UnsupportedOperationException.class, () -> y.update(2, 0));
        Due.refuses("delete is too late", UnsupportedOperationException.class, () -> y.delete(3, 0));
        Due.answer("select is never", y.select(4, 0), 1);
        Due.refuses("insert is too late", UnsupportedOperationException.class, () -> y.insert(4, 0, 1, 0, 0, 0));
    }

    private static void firstRowTold() {
        Due.sentence("Both are told of the first ROW for which one is so; MUST WAIT and ArithmeticException of any ROW"
            + " come before TOO LATE of any.");
        VersionedTables x = Made.rows(3, 5, 6, 0);
        x.select(3, 0);
        Due.where(x, "6/a=1|a=5");
        Due.refuses("the last row divides in the condition: update", ArithmeticException.class, () -> x.update(2, 0));
        Due.refuses("the last row divides in the condition: delete", ArithmeticException.class, () -> x.delete(2, 0));
        x.where();
        Due.setting(x, "a=6/a");
        Due.refuses("the last row divides in a setting", ArithmeticException.class, () -> x.update(2, 0));
        Due.answer("2 is open", x.count(1), 2);
        Due.where(x, "a>0");
        Due.refuses("none divides", UnsupportedOperationException.class, () -> x.update(2, 0));
        Due.answer("2 is broken", x.count(1), 1);
    }

    private static void insertValues() {
        Due.sentence("INSERT with values for the COLUMNS in order: the ROW's number.");
        for (int columns = 1; columns <= 4; columns++) {
            VersionedTables x = Made.table(columns, 1);
            Due.answer("the first row", x.insert(1, 0, MIN, MAX, -1, 0), 0);
            Due.answer("the second row", x.insert(1, 0, 0, -1, MAX, MIN), 1);
            x.select(1, 0);
            int[] first = {MIN, MAX, -1, 0};
            int[] second = {0, -1, MAX, MIN};
            for (int column = 0; column < 4; column++) {
                Due.answer("first", x.result(0, column), column < columns ? first[column] : 0);
                Due.answer("second", x.result(1, column), column < columns ? second[column] : 0);
            }
        }
    }

    private static void insertTooLate() {
        Due.sentence("UnsupportedOperationException: TOO LATE.");
        VersionedTables x = Made.table(1, 3);
        x.insert(2, 0, 1, 0, 0, 0);
        x.create(1, 1);
        x.select(3, 1);
        Due.refuses("insert", UnsupportedOperationException.class, () -> x.insert(2, 1, 1, 0, 0, 0));
        Due.answer("2 is broken by it", x.count(7), 1);
        Due.answer("its row has no version", x.versions(0, 0), 0);
        Due.answer("no row", x.count(9), 0);
        Due.refuses("2 is not there", NoSuchElementException.class, () -> x.insert(2, 0, 1, 0, 0, 0));
        Due.answer("the next one", x.insert(3, 1, 1, 0, 0, 0), 0);
    }

    private static void insertFull() {
        Due.sentence("IllegalStateException: 24 ROWS were made (tested first).");
        VersionedTables x = Made.table(1, 3);
        for (int row = 0; row < 24; row++) {
            Due.answer("insert", x.insert(2, 0, row, 0, 0, 0), row);
        }
        Due.refuses("the 25th", IllegalStateException.class, () -> x.insert(2, 0, 0, 0, 0, 0));
        Due.refuses("of another transaction", IllegalStateException.class, () -> x.insert(1, 0, 0, 0, 0, 0));
        x.delete(2, 0);
        Due.refuses("all are gone", IllegalStateException.class, () -> x.insert(2, 0, 0, 0, 0, 0));
        x.abort(2);
        Due.refuses("none has a version", IllegalStateException.class, () -> x.insert(3, 0, 0, 0, 0, 0));
        x.select(3, 0);
        Due.refuses("before TOO LATE", IllegalStateException.class, () -> x.insert(1, 0, 0, 0, 0, 0));
        Due.answer("none is broken by TOO LATE", x.count(7), 0);
        Due.answer("1 is open", x.abort(1), 0);
        x.create(1, 1);
        Due.answer("another table has room", x.insert(3, 1, 0, 0, 0, 0), 0);
    }

    private static void selectCounts() {
        Due.sentence("SELECT: how many ROWS the RESULT has.");
        VersionedTables x = Made.fullTable(2);
        Due.answer("all 24", x.select(2, 0), 24);
        Due.answer("count(3)", x.count(3), 24);
        Due.where(x, "a=23");
        Due.answer("the last", x.select(2, 0), 1);
        Due.answer("its number", x.result(0, -1), 23);
        Due.where(x, "a=0");
        Due.answer("the first", x.select(2, 0), 1);
        Due.answer("its number", x.result(0, -1), 0);
        Due.where(x, "a=24");
        Due.answer("none", x.select(2, 0), 0);
        Due.answer("count(3)", x.count(3), 0);
    }

    private static void updateCounts() {
        Due.sentence("UPDATE: how many ROWS were WRITTEN.");
        VersionedTables x = Made.fullTable(3);
        Due.answer("all 24, without settings", x.update(2, 0), 24);
        Due.answer("each has a version more", x.count(6), 48);
        Due.setting(x, "a=a");
        Due.answer("all 24, with the same values", x.update(2, 0), 24);
        Due.answer("its own versions", x.count(6), 48);
        Due.where(x, "a<0");
        Due.answer("none", x.update(2, 0), 0);
        Due.where(x, "a=0|a=23");
        Due.answer("the first and the last", x.update(2, 0), 2);
        Due.answer("no result", x.count(3), 0);
    }

    private static void updateColumns() {
        Due.sentence("IllegalArgumentException: there is a SETTING of a COLUMN that the TABLE does not have (before MUST"
            + " WAIT).");
        for (int columns = 1; columns <= 3; columns++) {
            VersionedTables x = Made.table(columns, 3);
            Due.setting(x, "abcd".charAt(columns) + "=1");
            Due.refuses("without rows", IllegalArgumentException.class, () -> x.update(2, 0));
            Due.setting(x, "a=1/0");
            x.insert(2, 0, 1, 1, 1, 1);
            Due.refuses("before a division by 0", IllegalArgumentException.class, () -> x.update(2, 0));
            Due.refuses("before MUST WAIT", IllegalArgumentException.class, () -> x.update(3, 0));
            Due.where(x, "a=9");
            Due.refuses("no row holds", IllegalArgumentException.class, () -> x.update(2, 0));
            Due.where(x, "1/0=1");
            Due.refuses("before a division in the condition", IllegalArgumentException.class, () -> x.update(2, 0));
            x.where();
            Due.answer("no statement but update", x.select(2, 0), 1);
            x.clear();
            Due.setting(x, "abcd".charAt(columns - 1) + "=d");
            Due.answer("the last column, with a term of others", x.update(2, 0), 1);
        }
        VersionedTables y = Made.rows(3, 1);
        y.select(3, 0);
        Due.setting(y, "d=1");
        Due.refuses("before TOO LATE", IllegalArgumentException.class, () -> y.update(2, 0));
        Due.answer("2 is open", y.count(1), 2);
    }

    private static void deleteCounts() {
        Due.sentence("DELETE: how many ROWS were WRITTEN.");
        VersionedTables x = Made.fullTable(3);
        Due.where(x, "a<0");
        Due.answer("none", x.delete(2, 0), 0);
        Due.answer("no version", x.count(6), 24);
        Due.where(x, "a=0|a=23");
        Due.answer("the first and the last", x.delete(2, 0), 2);
        Due.answer("are gone", x.delete(2, 0), 0);
        x.where();
        Due.answer("the others", x.delete(2, 0), 22);
        Due.answer("all are gone", x.delete(2, 0), 0);
        Due.setting(x, "d=1");
        Due.answer("a setting does not matter", x.delete(2, 0), 0);
        Due.answer("no result", x.count(3), 0);
        x.commit(2);
        Due.answer("all are gone for 3", x.delete(3, 0), 0);
    }
}
