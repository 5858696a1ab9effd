import java.util.NoSuchElementException;

/** Promises 11 to 14: insert, select, update, delete. */
public final class StatementsTest {
    public static void main(String[] args) {
        insertNumbersRows();
        insertHasItsLimit();
        insertTooLate();
        insertAtTheScansTime();
        selectSeesItsTime();
        selectMustWait();
        selectThrowsAndChangesNothing();
        selectReadsAllRowsThatHold();
        goneRowsAreNotWritten();
        ownVersionsDoNotWait();
        updateWritesVersions();
        updateWithoutSettings();
        updateTooLate();
        updateTooLateOfALaterRow();
        updateLeavesUntouchedRows();
        updateColumnNotThere();
        deleteWritesGone();
        deleteOfOwnVersion();
        deleteTooLate();
        statementsLeaveTheResult();
        Due.finish();
    }

    /** Table 0 with two columns and the committed rows (1, 10), (2, 20), (3, 30), .. of transaction 1. */
    private static VersionedTables tableOf(int rows, int transactions) {
        VersionedTables x = new VersionedTables();
        x.create(0, 2);
        x.begin();
        for (int a = 1; a <= rows; a++) {
            x.insert(1, 0, a, 10 * a, 0, 0);
        }
        x.commit(1);
        for (int t = 2; t <= transactions; t++) {
            x.begin();
        }
        return x;
    }

    private static void insertNumbersRows() {
        VersionedTables x = new VersionedTables();
        x.create(0, 4);
        x.create(1, 4);
        x.begin();
        x.begin();
        Due.answer("insert", x.insert(2, 0, -1, 2, -3, Integer.MIN_VALUE), 0);
        Due.answer("another table", x.insert(1, 1, 0, 0, 0, 0), 0);
        Due.answer("an earlier transaction", x.insert(1, 0, 5, 6, 7, 8), 1);
        Due.answer("one version", x.versions(0, 1), 1);
        x.commit(1);
        Due.answer("select", x.select(2, 0), 2);
        Due.answer("a", x.result(0, 0), -1);
        Due.answer("b", x.result(0, 1), 2);
        Due.answer("c", x.result(0, 2), -3);
        Due.answer("d", x.result(0, 3), Integer.MIN_VALUE);
        Due.answer("row 1", x.result(1, 3), 8);
    }

    private static void insertHasItsLimit() {
        VersionedTables x = tableOf(23, 3);
        Due.answer("the 24th", x.insert(2, 0, 0, 0, 0, 0), 23);
        Due.refuses("the 25th", IllegalStateException.class, () -> x.insert(2, 0, 0, 0, 0, 0));
        Due.answer("24 rows", x.count(8), 24);
        x.abort(2);
        Due.refuses("rows without versions count", IllegalStateException.class, () -> x.insert(3, 0, 0, 0, 0, 0));
        VersionedTables y = tableOf(24, 3);
        y.select(3, 0);
        Due.refuses("24 rows are seen before TOO LATE", IllegalStateException.class,
            () -> y.insert(2, 0, 0, 0, 0, 0));
        Due.answer("2 is not broken", y.count(1), 2);
        Due.refuses("no transaction is seen before 24 rows", NoSuchElementException.class,
            () -> y.insert(1, 0, 0, 0, 0, 0));
    }

    private static void insertTooLate() {
        VersionedTables x = tableOf(1, 3);
        x.create(1, 1);
        x.insert(2, 1, 4, 0, 0, 0);
        Due.answer("the table is scanned at 3", x.select(3, 0), 1);
        Due.refuses("insert at 2", UnsupportedOperationException.class, () -> x.insert(2, 0, 9, 9, 9, 9));
        Due.answer("no row", x.count(8), 1);
        Due.answer("2 is broken", x.count(1), 1);
        Due.answer("by TOO LATE", x.count(7), 1);
        Due.answer("its versions went", x.versions(1, 0), 0);
        Due.refuses("2 is not open", NoSuchElementException.class, () -> x.select(2, 0));
    }

    private static void insertAtTheScansTime() {
        VersionedTables x = tableOf(1, 3);
        x.select(2, 0);
        Due.answer("scanned at 2, insert at 2", x.insert(2, 0, 9, 9, 9, 9), 1);
        x.create(1, 1);
        x.select(3, 1);
        x.select(2, 1);
        Due.refuses("an earlier scan leaves the later one", UnsupportedOperationException.class,
            () -> x.insert(2, 1, 0, 0, 0, 0));
    }

    private static void selectSeesItsTime() {
        VersionedTables x = tableOf(2, 3);
        Due.setting(x, "a=7");
        x.update(3, 0);
        Due.answer("the old state at 2", x.select(2, 0), 2);
        Due.answer("the old value", x.result(1, 0), 2);
        Due.answer("the new state at 3", x.select(3, 0), 2);
        Due.answer("the new value", x.result(1, 0), 7);
        x.commit(3);
        Due.answer("still the old state at 2", x.select(2, 0), 2);
        Due.answer("the old value", x.result(1, 0), 2);
        x.begin();
        Due.answer("the newest state at 4", x.select(4, 0), 2);
        Due.answer("the new value", x.result(0, 0), 7);
    }

    private static void selectMustWait() {
        VersionedTables x = tableOf(2, 3);
        Due.where(x, "a=2");
        x.delete(2, 0);
        Due.where(x, "a=1");
        Due.refuses("select at 3", IllegalStateException.class, () -> x.select(3, 0));
        Due.refuses("update at 3", IllegalStateException.class, () -> x.update(3, 0));
        Due.refuses("delete at 3", IllegalStateException.class, () -> x.delete(3, 0));
        Due.answer("3 is open", x.count(1), 2);
        x.abort(2);
        Due.answer("2 is broken", x.select(3, 0), 1);
    }

    private static void selectThrowsAndChangesNothing() {
        VersionedTables x = tableOf(3, 3);
        Due.where(x, "a>1");
        Due.answer("a result", x.select(2, 0), 2);
        Due.where(x, "a-2*0+6/0=1");
        Due.refuses("division by 0", ArithmeticException.class, () -> x.select(3, 0));
        Due.answer("the result stays", x.count(3), 2);
        Due.answer("its rows stay", x.result(0, -1), 1);
        Due.answer("not scanned at 3", x.insert(2, 0, 4, 40, 0, 0), 3);
        x.where();
        Due.refuses("row 3 must wait", IllegalStateException.class, () -> x.select(3, 0));
        Due.answer("the result stays", x.count(3), 2);
        Due.answer("nothing was read at 3", x.delete(2, 0), 4);
    }

    private static void selectReadsAllRowsThatHold() {
        VersionedTables x = tableOf(2, 4);
        Due.where(x, "a=1");
        Due.answer("one row holds", x.select(4, 0), 1);
        Due.where(x, "a=2");
        Due.refuses("the other was read too", UnsupportedOperationException.class, () -> x.delete(2, 0));
        Due.answer("an earlier read", x.select(3, 0), 1);
        Due.refuses("leaves the later one", UnsupportedOperationException.class, () -> x.delete(3, 0));
    }

    private static void goneRowsAreNotWritten() {
        VersionedTables x = tableOf(1, 2);
        x.delete(2, 0);
        x.commit(2);
        x.begin();
        x.begin();
        Due.answer("gone at 4", x.select(4, 0), 0);
        Due.answer("gone at 3", x.delete(3, 0), 0);
        Due.answer("nothing is written", x.versions(0, 0), 2);
    }

    private static void ownVersionsDoNotWait() {
        VersionedTables x = tableOf(1, 2);
        Due.setting(x, "a=a+1");
        Due.answer("update", x.update(2, 0), 1);
        Due.answer("update again", x.update(2, 0), 1);
        Due.answer("select", x.select(2, 0), 1);
        Due.answer("both are seen", x.result(0, 0), 3);
        Due.answer("one version of 2", x.versions(0, 0), 2);
        Due.answer("insert", x.insert(2, 0, 8, 8, 8, 8), 1);
        Due.answer("update of it", x.update(2, 0), 2);
        Due.answer("one version", x.versions(0, 1), 1);
    }

    private static void updateWritesVersions() {
        VersionedTables x = tableOf(3, 3);
        Due.where(x, "a>1");
        Due.setting(x, "a=b");
        Due.setting(x, "b=a");
        Due.answer("update", x.update(2, 0), 2);
        Due.answer("not the first row", x.versions(0, 0), 1);
        Due.answer("the second row", x.versions(0, 1), 2);
        Due.answer("select", x.select(2, 0), 2);
        Due.answer("a of the old values", x.result(1, 0), 30);
        Due.answer("b of the old values", x.result(1, 1), 3);
        x.commit(2);
        Due.answer("a new version was read at 2", x.update(3, 0), 2);
        Due.answer("three versions", x.versions(0, 2), 3);
    }

    private static void updateWithoutSettings() {
        VersionedTables x = tableOf(2, 2);
        Due.answer("update", x.update(2, 0), 2);
        Due.answer("new versions", x.count(6), 4);
        Due.answer("select", x.select(2, 0), 2);
        Due.answer("the same values", x.result(1, 1), 20);
    }

    private static void updateTooLate() {
        VersionedTables x = tableOf(2, 3);
        Due.setting(x, "a=5");
        Due.answer("update at 3", x.update(3, 0), 2);
        Due.refuses("update at 2", UnsupportedOperationException.class, () -> x.update(2, 0));
        Due.answer("2 is broken", x.count(1), 1);
        Due.answer("by TOO LATE", x.count(7), 1);
        Due.answer("2 is not done", x.count(2), 1);
        Due.refuses("2 is not open", NoSuchElementException.class, () -> x.commit(2));
        Due.answer("versions", x.count(6), 4);
    }

    private static void updateTooLateOfALaterRow() {
        VersionedTables x = tableOf(1, 4);
        x.insert(2, 0, 2, 20, 0, 0);
        x.commit(2);
        x.begin();
        Due.where(x, "a=2");
        x.select(5, 0);
        x.create(1, 1);
        x.insert(4, 1, 6, 0, 0, 0);
        x.where();
        Due.refuses("update at 4", UnsupportedOperationException.class, () -> x.update(4, 0));
        Due.answer("no row is written", x.versions(0, 0), 1);
        Due.answer("no row is written", x.versions(0, 1), 1);
        Due.answer("all versions of 4 went", x.count(6), 2);
        Due.answer("rows made", x.count(9), 1);
        Due.answer("5 goes on", x.update(5, 0), 2);
    }

    private static void updateLeavesUntouchedRows() {
        VersionedTables x = tableOf(1, 3);
        x.select(3, 0);
        Due.where(x, "a=9");
        Due.answer("read later, but not written", x.update(2, 0), 0);
        Due.answer("2 is open", x.count(1), 2);
    }

    private static void updateColumnNotThere() {
        VersionedTables x = tableOf(1, 3);
        x.create(1, 3);
        Due.setting(x, "c=1");
        Due.refuses("no column c", IllegalArgumentException.class, () -> x.update(2, 0));
        Due.answer("column c", x.update(2, 1), 0);
        x.insert(2, 0, 1, 1, 1, 1);
        Due.refuses("before MUST WAIT", IllegalArgumentException.class, () -> x.update(3, 0));
        Due.refuses("after no transaction", NoSuchElementException.class, () -> x.update(1, 0));
        x.clear();
        Due.refuses("MUST WAIT", IllegalStateException.class, () -> x.update(3, 0));
        Due.setting(x, "b=b+c+d");
        Due.answer("c and d count as 0", x.update(2, 0), 2);
        x.select(2, 0);
        Due.answer("c and d count as 0", x.result(1, 1), 1);
    }

    private static void deleteWritesGone() {
        VersionedTables x = tableOf(3, 3);
        Due.where(x, "a=2");
        Due.answer("delete", x.delete(2, 0), 1);
        Due.answer("a new version", x.versions(0, 1), 2);
        Due.answer("delete again", x.delete(2, 0), 0);
        x.where();
        Due.answer("select", x.select(2, 0), 2);
        Due.answer("row 2 is next", x.result(1, -1), 2);
        x.commit(2);
        Due.answer("select at 3", x.select(3, 0), 2);
        Due.where(x, "a=2");
        Due.answer("the gone one does not hold", x.select(3, 0), 0);
    }

    private static void deleteOfOwnVersion() {
        VersionedTables x = tableOf(0, 2);
        x.insert(2, 0, 0, 0, 0, 0);
        Due.answer("delete", x.delete(2, 0), 1);
        Due.answer("the version is gone, but there", x.versions(0, 0), 1);
        Due.where(x, "1/a=1");
        Due.answer("no values are worked out", x.select(2, 0), 0);
        x.commit(2);
        x.begin();
        Due.answer("nor by later ones", x.select(3, 0), 0);
    }

    private static void deleteTooLate() {
        VersionedTables x = tableOf(2, 4);
        x.select(3, 0);
        Due.refuses("delete at 2", UnsupportedOperationException.class, () -> x.delete(2, 0));
        Due.answer("by TOO LATE", x.count(7), 1);
        Due.answer("nothing is written", x.count(6), 2);
        Due.answer("delete at 3, read at 3", x.delete(3, 0), 2);
        x.commit(3);
        Due.answer("gone at 4", x.select(4, 0), 0);
    }

    private static void statementsLeaveTheResult() {
        VersionedTables x = tableOf(2, 2);
        Due.answer("select", x.select(2, 0), 2);
        Due.setting(x, "a=50");
        x.update(2, 0);
        Due.answer("the result has its values", x.result(0, 0), 1);
        x.delete(2, 0);
        x.abort(2);
        Due.answer("the result stays", x.count(3), 2);
        Due.answer("the result has its values", x.result(1, 0), 2);
    }
}
