import java.util.NoSuchElementException;

/** Boundary cases of the promises 15 to 19, a test for each sentence. */
public final class ResultBoundariesTest {
    private static final int MIN = Integer.MIN_VALUE;
    private static final int MAX = Integer.MAX_VALUE;

    public static void main(String[] args) {
        resultTells();
        resultNoRow();
        resultNoColumn();
        meanDivides();
        meanEmpty();
        meanNoColumn();
        vacuumTakes();
        vacuumWithOpenOnes();
        vacuumWithTheFirstOpen();
        vacuumWithBrokenOnes();
        versionsCounts();
        versionsRefused();
        countTransactions();
        countResultAndLine();
        countVersions();
        countTooLate();
        countRows();
        countElse();
        Due.finish();
    }

    private static void resultTells() {
        Due.sentence("Of ROW i, from 0, of the RESULT: its number (column -1) or the value of COLUMN 0 .. 3 (0 if the"
            + " TABLE had none such).");
        for (int columns = 1; columns <= 4; columns++) {
            VersionedTables x = Made.table(columns, 1);
            for (int row = 0; row < 24; row++) {
                x.insert(1, 0, row, MIN + row, MAX - row, -row);
            }
            Due.answer("a full result", x.select(1, 0), 24);
            int[] looked = {0, 1, 22, 23};
            for (int i : looked) {
                int[] due = {i, i, MIN + i, MAX - i, -i};
                for (int column = -1; column <= 3; column++) {
                    Due.answer("result(" + i + ", " + column + ") of " + columns, x.result(i, column),
                        column < columns ? due[column + 1] : 0);
                }
            }
            Due.where(x, "a=23");
            x.select(1, 0);
            Due.answer("row 0 of the result has its own number", x.result(0, -1), 23);
        }
    }

    private static void resultNoRow() {
        Due.sentence("NoSuchElementException: there is no such ROW.");
        VersionedTables x = Made.fullTable(2);
        Due.refuses("before any select", NoSuchElementException.class, () -> x.result(0, 0));
        x.select(2, 0);
        int[] none = {MIN, -1, 24, 25, 41, MAX};
        for (int i : none) {
            Due.refuses("result(" + i + ", 0) of 24", NoSuchElementException.class, () -> x.result(i, 0));
            Due.refuses("result(" + i + ", -1) of 24", NoSuchElementException.class, () -> x.result(i, -1));
        }
        Due.where(x, "a>21");
        x.select(2, 0);
        Due.answer("the last of two", x.result(1, 0), 23);
        Due.refuses("the third of two", NoSuchElementException.class, () -> x.result(2, 0));
        Due.refuses("the 24th of two", NoSuchElementException.class, () -> x.result(23, 0));
        Due.where(x, "a<0");
        x.select(2, 0);
        Due.refuses("the first of none", NoSuchElementException.class, () -> x.result(0, -1));
    }

    private static void resultNoColumn() {
        Due.sentence("IndexOutOfBoundsException: another column.");
        VersionedTables x = Made.rows(2, 1);
        x.select(2, 0);
        int[] none = {MIN, -3, -2, 4, 5, 256, MAX};
        for (int column : none) {
            Due.refuses("result(0, " + column + ")", IndexOutOfBoundsException.class, () -> x.result(0, column));
        }
        Due.answer("column -1", x.result(0, -1), 0);
        Due.answer("column 3", x.result(0, 3), 0);
    }

    private static void meanDivides() {
        Due.sentence("The mean of COLUMN 0 .. 3 over the RESULT: the sum as a long, taken as a double, divided by how"
            + " many.");
        VersionedTables x = Made.table(4, 1);
        for (int row = 0; row < 24; row++) {
            x.insert(1, 0, MAX, MIN, row, row == 0 ? MAX : 1);
        }
        x.select(1, 0);
        Due.answer("24 times MAX", x.mean(0), 2147483647.0);
        Due.answer("24 times MIN", x.mean(1), -2147483648.0);
        Due.answer("0 .. 23", x.mean(2), 11.5);
        Due.answer("MAX and 23 times 1", x.mean(3), (double) (2147483647L + 23L) / 24);
        Due.where(x, "c<3");
        x.select(1, 0);
        Due.answer("of three", x.mean(2), 1.0);
        Due.answer("a third", x.mean(3), (double) (2147483647L + 2L) / 3);
        Due.where(x, "c=7");
        x.select(1, 0);
        Due.answer("of one", x.mean(2), 7.0);
        VersionedTables y = Made.rows(2, -1, 0);
        y.select(2, 0);
        Due.answer("below 0", y.mean(0), -0.5);
        Due.answer("a column that the table has not", y.mean(3), 0.0);
    }

    private static void meanEmpty() {
        Due.sentence("ArithmeticException: the RESULT is empty.");
        VersionedTables x = Made.rows(2, 1, 2);
        for (int column = 0; column < 4; column++) {
            int one = column;
            Due.refuses("before any select", ArithmeticException.class, () -> x.mean(one));
        }
        x.select(2, 0);
        Due.answer("of two", x.mean(0), 1.5);
        Due.where(x, "a=9");
        x.select(2, 0);
        Due.refuses("after an empty select", ArithmeticException.class, () -> x.mean(0));
    }

    private static void meanNoColumn() {
        Due.sentence("IndexOutOfBoundsException: another column (tested first).");
        VersionedTables x = Made.rows(2, 1, 2);
        int[] none = {MIN, -2, -1, 4, 5, MAX};
        for (int column : none) {
            Due.refuses("an empty result: mean(" + column + ")", IndexOutOfBoundsException.class,
                () -> x.mean(column));
        }
        x.select(2, 0);
        for (int column : none) {
            Due.refuses("mean(" + column + ")", IndexOutOfBoundsException.class, () -> x.mean(column));
        }
    }

    private static final String VACUUM = "Of every ROW, all VERSIONS go whose WRITER is DONE and for which there is one"
        + " of the ROW with a greater WRITER that is DONE and not above the least OPEN TRANSACTION (or any, if none is"
        + " OPEN): how many.";

    private static void vacuumTakes() {
        Due.sentence(VACUUM);
        Due.answer("no table", new VersionedTables().vacuum(), 0);
        Due.answer("no rows", Made.table(1, 1).vacuum(), 0);
        Due.answer("one version", Made.rowWithVersions(1).vacuum(), 0);
        Due.answer("two versions", Made.rowWithVersions(2).vacuum(), 1);
        VersionedTables x = Made.rowWithVersions(40);
        Due.answer("40 versions", x.vacuum(), 39);
        Due.answer("one stays", x.versions(0, 0), 1);
        Due.answer("again", x.vacuum(), 0);
        VersionedTables y = Made.fullTable(2);
        y.delete(2, 0);
        y.commit(2);
        Due.answer("24 rows", y.vacuum(), 24);
        Due.answer("the gone ones stay", y.count(6), 24);
        y.begin();
        Due.answer("and are gone", y.select(3, 0), 0);
    }

    private static void vacuumWithOpenOnes() {
        Due.sentence(VACUUM);
        VersionedTables x = Made.rowWithVersions(2);
        Made.begin(x, 4);
        x.update(4, 0);
        x.commit(4);
        x.update(5, 0);
        x.commit(5);
        Due.answer("3 is open: 1 goes, since 2 is done", x.vacuum(), 1);
        Due.answer("2, 4 and 5 stay", x.versions(0, 0), 3);
        x.commit(3);
        Due.answer("6 is open: 2 and 4 go", x.vacuum(), 2);
        x.update(6, 0);
        Due.answer("the version of 6 takes none", x.vacuum(), 0);
        x.begin();
        x.commit(6);
        Due.answer("7 is open: 5 goes", x.vacuum(), 1);
        Due.answer("7 sees 6", x.select(7, 0), 1);
        VersionedTables y = Made.rowWithVersions(1);
        Made.begin(y, 3);
        y.update(3, 0);
        y.commit(3);
        Due.answer("2 is open: 3 is above it", y.vacuum(), 0);
        y.commit(2);
        Due.answer("4 is open: 3 is not above it", y.vacuum(), 1);
    }

    private static void vacuumWithTheFirstOpen() {
        Due.sentence(VACUUM);
        VersionedTables x = Made.table(1, 4);
        x.insert(2, 0, 1, 0, 0, 0);
        x.commit(2);
        x.update(3, 0);
        x.commit(3);
        Due.answer("1 is open: 2 and 3 are above it", x.vacuum(), 0);
        x.abort(1);
        Due.answer("4 is open", x.vacuum(), 1);
        Due.answer("3 stays", x.versions(0, 0), 1);
    }

    private static void vacuumWithBrokenOnes() {
        Due.sentence(VACUUM);
        VersionedTables x = Made.rowWithVersions(1);
        Made.begin(x, 2);
        x.update(3, 0);
        x.abort(3);
        x.abort(2);
        Due.answer("only 1 is done", x.vacuum(), 0);
        Due.answer("its version stays", x.versions(0, 0), 1);
        VersionedTables y = Made.table(1, 2);
        y.insert(1, 0, 1, 0, 0, 0);
        y.insert(2, 0, 1, 0, 0, 0);
        y.abort(1);
        y.commit(2);
        Due.answer("a row without versions", y.vacuum(), 0);
        Due.answer("another row's version takes none", y.versions(0, 1), 1);
    }

    private static void versionsCounts() {
        Due.sentence("How many VERSIONS a ROW of TABLE k has.");
        Due.answer("40", Made.rowWithVersions(40).versions(0, 0), 40);
        VersionedTables x = Made.fullTable(3);
        Due.where(x, "a=23");
        x.update(2, 0);
        Due.answer("the first row", x.versions(0, 0), 1);
        Due.answer("the last row", x.versions(0, 23), 2);
        x.delete(2, 0);
        Due.answer("gone ones count", x.versions(0, 23), 2);
        x.create(2, 1);
        x.insert(2, 2, 1, 0, 0, 0);
        x.abort(2);
        Due.answer("none", x.versions(2, 0), 0);
        Due.answer("one again", x.versions(0, 23), 1);
    }

    private static void versionsRefused() {
        Due.sentence("NoSuchElementException: no such TABLE or ROW.");
        VersionedTables x = Made.fullTable(2);
        x.create(2, 1);
        int[] noTable = {MIN, -1, 1, 3, MAX};
        for (int k : noTable) {
            Due.refuses("versions(" + k + ", 0)", NoSuchElementException.class, () -> x.versions(k, 0));
            Due.refuses("versions(" + k + ", -1)", NoSuchElementException.class, () -> x.versions(k, -1));
        }
        int[] noRow = {MIN, -1, 24, 25, MAX};
        for (int row : noRow) {
            Due.refuses("versions(0, " + row + ")", NoSuchElementException.class, () -> x.versions(0, row));
        }
        Due.refuses("a table without rows", NoSuchElementException.class, () -> x.versions(2, 0));
        x.insert(2, 2, 1, 0, 0, 0);
        Due.answer("its first row", x.versions(2, 0), 1);
        Due.refuses("its second row", NoSuchElementException.class, () -> x.versions(2, 1));
    }

    private static void countTransactions() {
        Due.sentence("0: TRANSACTIONS begun; 1: OPEN; 2: DONE (without 0)");
        VersionedTables x = new VersionedTables();
        counts(x, 0, 0, 0);
        Made.begin(x, 40);
        Due.refuses("the 41st", IllegalStateException.class, x::begin);
        counts(x, 40, 40, 0);
        for (int t = 1; t <= 40; t++) {
            x.commit(t);
            counts(x, 40, 40 - t, t);
        }
        VersionedTables y = new VersionedTables();
        Made.begin(y, 2);
        y.abort(1);
        counts(y, 2, 1, 0);
        y.abort(2);
        counts(y, 2, 0, 0);
    }

    private static void counts(VersionedTables x, int begun, int open, int done) {
        Due.answer("count(0)", x.count(0), begun);
        Due.answer("count(1)", x.count(1), open);
        Due.answer("count(2)", x.count(2), done);
    }

    private static void countResultAndLine() {
        Due.sentence("3: ROWS of the RESULT; 4: characters in THE LINE; 5: SETTINGS");
        VersionedTables x = Made.fullTable(2);
        Due.answer("no result", x.count(3), 0);
        x.select(2, 0);
        Due.answer("a full result", x.count(3), 24);
        Due.answer("an empty line", x.count(4), 0);
        Due.type(x, "a".repeat(40));
        Due.answer("a full line", x.count(4), 40);
        Due.refuses("refused", IllegalArgumentException.class, x::where);
        Due.answer("an empty line", x.count(4), 0);
        for (int column = 0; column < 4; column++) {
            Due.answer("settings", x.count(5), column);
            Due.setting(x, "abcd".charAt(column) + "=1");
        }
        Due.answer("a setting of each column", x.count(5), 4);
        x.clear();
        Due.answer("none", x.count(5), 0);
    }

    private static void countVersions() {
        Due.sentence("6: VERSIONS of all ROWS");
        VersionedTables x = new VersionedTables();
        Due.answer("no table", x.count(6), 0);
        Made.begin(x, 4);
        for (int k = 0; k < 3; k++) {
            x.create(k, 1);
            for (int row = 0; row < 24; row++) {
                x.insert(1, k, 1, 0, 0, 0);
            }
        }
        Due.answer("three full tables", x.count(6), 72);
        x.commit(1);
        for (int t = 2; t <= 4; t++) {
            for (int k = 0; k < 3; k++) {
                x.update(t, k);
            }
            x.commit(t);
        }
        Due.answer("four of each", x.count(6), 288);
        Due.answer("vacuum", x.vacuum(), 216);
        Due.answer("one of each", x.count(6), 72);
    }

    private static void countTooLate() {
        Due.sentence("7: TRANSACTIONS that TOO LATE broke");
        VersionedTables x = Made.rows(6, 1);
        x.select(6, 0);
        x.abort(5);
        Due.answer("abort does not count", x.count(7), 0);
        Due.refuses("insert", UnsupportedOperationException.class, () -> x.insert(2, 0, 1, 1, 1, 1));
        Due.answer("insert", x.count(7), 1);
        Due.refuses("2 is broken", NoSuchElementException.class, () -> x.insert(2, 0, 1, 1, 1, 1));
        Due.answer("only once", x.count(7), 1);
        Due.refuses("update", UnsupportedOperationException.class, () -> x.update(3, 0));
        Due.answer("update", x.count(7), 2);
        Due.refuses("delete", UnsupportedOperationException.class, () -> x.delete(4, 0));
        Due.answer("delete", x.count(7), 3);
        VersionedTables y = Made.rows(40, 1);
        y.select(40, 0);
        for (int t = 2; t < 40; t++) {
            int late = t;
            Due.refuses("delete", UnsupportedOperationException.class, () -> y.delete(late, 0));
        }
        Due.answer("all but two", y.count(7), 38);
    }

    private static void countRows() {
        Due.sentence("8 .. 10: ROWS made in TABLE what - 8 (0 if it is not there).");
        for (int k = 0; k < 3; k++) {
            VersionedTables x = new VersionedTables();
            Due.answer("not there", x.count(8 + k), 0);
            x.create(k, 1);
            Due.answer("without rows", x.count(8 + k), 0);
            x.begin();
            for (int row = 0; row < 24; row++) {
                x.insert(1, k, row, 0, 0, 0);
            }
            int one = k;
            Due.refuses("the 25th", IllegalStateException.class, () -> x.insert(1, one, 0, 0, 0, 0));
            Due.answer("full", x.count(8 + k), 24);
            x.abort(1);
            Due.answer("without versions", x.count(8 + k), 24);
            Due.answer("another table", x.count(8 + (k + 1) % 3), 0);
            Due.answer("another table", x.count(8 + (k + 2) % 3), 0);
        }
    }

    private static void countElse() {
        Due.sentence("Else -1.");
        VersionedTables x = Made.fullTable(3);
        int[] none = {MIN, -100, -8, -2, -1, 11, 12, 256, MAX};
        for (int what : none) {
            Due.answer("count(" + what + ")", x.count(what), -1);
            Due.answer("new: count(" + what + ")", new VersionedTables().count(what), -1);
        }
    }
}
