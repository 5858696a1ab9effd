import java.util.NoSuchElementException;

/**
 * Boundary cases of tables, rows, versions and transactions, a test for each sentence: the first half of
 * the section Terms, and the promises 1, 2 and 8 to 10.
 */
public final class TablesBoundariesTest {
    private static final int MIN = Integer.MIN_VALUE;
    private static final int MAX = Integer.MAX_VALUE;

    public static void main(String[] args) {
        lifeOfAnObject();
        tablesAndColumns();
        rowNumbers();
        readAtFirst();
        rowsWithoutVersions();
        scannedAtFirst();
        transactionNumbers();
        transactionStates();
        differentWriters();
        brokenOnes();
        versionThatHolds();
        newObject();
        createMakes();
        createOutOfRange();
        createThere();
        beginNumbers();
        beginRefused();
        commitEnds();
        abortCounts();
        Due.finish();
    }

    private static void lifeOfAnObject() {
        Due.sentence("An object is used for at most 512 calls after it has been made; what later calls answer is free.");
        VersionedTables x = new VersionedTables();
        x.create(0, 1);
        x.begin();
        x.insert(1, 0, 5, 0, 0, 0);
        for (int round = 0; round < 126; round++) {
            Due.where(x, "a=5");
        }
        Due.answer("call 508", x.select(1, 0), 1);
        Due.answer("call 509", x.result(0, 0), 5);
        Due.answer("call 510", x.mean(0), 5.0);
        Due.answer("call 511", x.delete(1, 0), 1);
        Due.answer("call 512", x.abort(1), 1);
    }

    private static void tablesAndColumns() {
        Due.sentence("TABLES 0 .. 2 have 1 .. 4 COLUMNS a, b, c, d, or are not there.");
        for (int columns = 1; columns <= 4; columns++) {
            VersionedTables x = new VersionedTables();
            x.begin();
            for (int k = 0; k <= 2; k++) {
                int one = k;
                Due.refuses("table " + k + " is not there", NoSuchElementException.class, () -> x.select(1, one));
                x.create(k, columns);
                Due.answer("table " + k + " is there", x.insert(1, k, 1, 2, 3, 4), 0);
                x.select(1, k);
                Due.answer("the last column", x.result(0, columns - 1), columns);
                Due.answer("column d", x.result(0, 3), columns == 4 ? 4 : 0);
            }
            Due.refuses("table -1", NoSuchElementException.class, () -> x.select(1, -1));
            Due.refuses("table 3", NoSuchElementException.class, () -> x.select(1, 3));
        }
    }

    private static void rowNumbers() {
        Due.sentence("A ROW of a TABLE, numbered 0 .. 23 as they are made, has VERSIONS");
        VersionedTables x = Made.table(1, 24);
        x.create(2, 1);
        for (int t = 24; t >= 1; t--) {
            Due.answer("a row of " + t, x.insert(t, 0, 100 + t, 0, 0, 0), 24 - t);
            Due.answer("one version", x.versions(0, 24 - t), 1);
        }
        Due.answer("another table has its own numbers", x.insert(24, 2, 0, 0, 0, 0), 0);
        for (int t = 1; t <= 23; t++) {
            x.commit(t);
        }
        Due.answer("all rows", x.select(24, 0), 24);
        Due.answer("the number of the first", x.result(0, -1), 0);
        Due.answer("the first", x.result(0, 0), 124);
        Due.answer("the number of the last", x.result(23, -1), 23);
        Due.answer("the last", x.result(23, 0), 101);
    }

    private static void readAtFirst() {
        Due.sentence("each with a WRITER (a TRANSACTION), a TIME it was READ last (at first its WRITER)");
        VersionedTables x = Made.table(1, 3);
        x.insert(2, 0, 1, 0, 0, 0);
        Due.answer("its writer writes it again", x.update(2, 0), 1);
        x.commit(2);
        Due.answer("the next one writes it", x.update(3, 0), 1);
        Due.answer("two versions", x.versions(0, 0), 2);
    }

    private static void rowsWithoutVersions() {
        Due.sentence("A ROW whose VERSIONS have all gone keeps its number.");
        VersionedTables x = Made.table(1, 3);
        x.insert(1, 0, 1, 0, 0, 0);
        x.insert(2, 0, 2, 0, 0, 0);
        x.insert(1, 0, 3, 0, 0, 0);
        x.abort(1);
        Due.answer("no version of row 0", x.versions(0, 0), 0);
        Due.answer("a version of row 1", x.versions(0, 1), 1);
        Due.answer("no version of row 2", x.versions(0, 2), 0);
        Due.answer("the next row", x.insert(2, 0, 4, 0, 0, 0), 3);
        Due.answer("two rows are seen", x.select(2, 0), 2);
        Due.answer("row 1 is still 1", x.result(0, -1), 1);
        Due.answer("row 3", x.result(1, -1), 3);
        x.abort(2);
        Due.answer("all have gone", x.select(3, 0), 0);
        Due.answer("four were made", x.count(8), 4);
    }

    private static void scannedAtFirst() {
        Due.sentence("A TABLE has a TIME it was SCANNED last, 0 at first.");
        VersionedTables x = Made.table(1, 40);
        Due.answer("the first transaction is not too late", x.insert(1, 0, 1, 0, 0, 0), 0);
        x.create(1, 1);
        x.create(2, 1);
        x.select(40, 1);
        Due.answer("another table was scanned", x.insert(1, 2, 1, 0, 0, 0), 0);
        Due.refuses("this one was", UnsupportedOperationException.class, () -> x.insert(39, 1, 1, 0, 0, 0));
    }

    private static void transactionNumbers() {
        Due.sentence("TRANSACTIONS are numbered 1, 2, .. as they begin, at most 40; the number is its TIME.");
        VersionedTables x = Made.table(1, 0);
        Due.refuses("0 is none", NoSuchElementException.class, () -> x.select(0, 0));
        Due.refuses("1 has not begun", NoSuchElementException.class, () -> x.select(1, 0));
        for (int t = 1; t <= 40; t++) {
            Due.answer("begin", x.begin(), t);
        }
        Due.answer("40 is one", x.select(40, 0), 0);
        Due.refuses("41 is none", NoSuchElementException.class, () -> x.select(41, 0));
        Due.refuses("39 is earlier than 40", UnsupportedOperationException.class,
            () -> x.insert(39, 0, 0, 0, 0, 0));
    }

    private static void transactionStates() {
        Due.sentence("It is OPEN, then DONE or BROKEN.");
        VersionedTables x = Made.table(1, 3);
        x.commit(1);
        x.abort(2);
        for (int t = 1; t <= 2; t++) {
            int ended = t;
            Due.refuses("commit of " + t, NoSuchElementException.class, () -> x.commit(ended));
            Due.refuses("abort of " + t, NoSuchElementException.class, () -> x.abort(ended));
            Due.refuses("select of " + t, NoSuchElementException.class, () -> x.select(ended, 0));
        }
        Due.answer("begun", x.count(0), 3);
        Due.answer("open", x.count(1), 1);
        Due.answer("done", x.count(2), 1);
    }

    private static void differentWriters() {
        Due.sentence("The VERSIONS of a ROW have different WRITERS.");
        VersionedTables x = Made.rows(2, 1);
        Due.setting(x, "a=a+1");
        for (int i = 0; i < 50; i++) {
            x.update(2, 0);
        }
        Due.answer("50 writes, one version", x.versions(0, 0), 2);
        x.delete(2, 0);
        Due.answer("the gone one is the same", x.versions(0, 0), 2);
        Due.answer("it goes alone", x.abort(2), 1);
    }

    private static void brokenOnes() {
        Due.sentence("When one is BROKEN, all its VERSIONS go.");
        VersionedTables x = writerInTwoTables();
        Due.answer("abort", x.abort(3), 3);
        onlyTheOthersStay(x);
        VersionedTables y = writerInTwoTables();
        y.create(1, 1);
        y.select(4, 1);
        Due.refuses("too late", UnsupportedOperationException.class, () -> y.insert(3, 1, 0, 0, 0, 0));
        onlyTheOthersStay(y);
    }

    /** 3 has written a row of 1 as gone, made one in table 0 and one in table 2; 2 has made one there too. */
    private static VersionedTables writerInTwoTables() {
        VersionedTables x = Made.rows(4, 1);
        x.create(2, 4);
        x.delete(3, 0);
        x.insert(3, 0, 1, 0, 0, 0);
        x.insert(3, 2, 1, 0, 0, 0);
        x.insert(2, 2, 1, 0, 0, 0);
        Due.answer("versions", x.count(6), 5);
        return x;
    }

    private static void onlyTheOthersStay(VersionedTables x) {
        Due.answer("versions of 1 and 2", x.count(6), 2);
        Due.answer("of 1", x.versions(0, 0), 1);
        Due.answer("of 3", x.versions(0, 1), 0);
        Due.answer("of 3", x.versions(2, 0), 0);
        Due.answer("of 2", x.versions(2, 1), 1);
        Due.answer("the gone one of 3 holds no more", x.select(4, 0), 1);
    }

    private static void versionThatHolds() {
        Due.sentence("For a TRANSACTION t the VERSION that HOLDS of a ROW is the one with the greatest WRITER"
            + " that is not above t, if there is one.");
        VersionedTables x = Made.table(1, 6);
        x.insert(2, 0, 2, 0, 0, 0);
        x.commit(2);
        Due.setting(x, "a=4");
        x.update(4, 0);
        Due.answer("1: none", x.select(1, 0), 0);
        Due.answer("3: that of 2", x.select(3, 0), 1);
        Due.answer("3: that of 2", x.result(0, 0), 2);
        Due.answer("4: its own", x.select(4, 0), 1);
        Due.answer("4: its own", x.result(0, 0), 4);
        Due.refuses("5: that of 4, which is open", IllegalStateException.class, () -> x.select(5, 0));
        x.abort(4);
        Due.answer("5: that of 2 again", x.select(5, 0), 1);
        Due.answer("5: that of 2 again", x.result(0, 0), 2);
        Due.setting(x, "a=6");
        x.update(6, 0);
        x.commit(6);
        Due.answer("5: still that of 2", x.select(5, 0), 1);
        Due.answer("5: still that of 2", x.result(0, 0), 2);
        x.begin();
        Due.answer("7: that of 6", x.select(7, 0), 1);
        Due.answer("7: that of 6", x.result(0, 0), 6);
    }

    private static void newObject() {
        Due.sentence("No TABLES and TRANSACTIONS, an empty LINE, an empty CONDITION, no SETTINGS and RESULT.");
        VersionedTables x = new VersionedTables();
        for (int k = 0; k <= 2; k++) {
            int one = k;
            Due.refuses("no table " + k, NoSuchElementException.class, () -> x.versions(one, 0));
            Due.answer("no rows of table " + k, x.count(8 + k), 0);
        }
        Due.refuses("no transaction", NoSuchElementException.class, () -> x.commit(1));
        Due.answer("no transaction", x.count(0), 0);
        Due.answer("an empty line", x.count(4), 0);
        Due.answer("no settings", x.count(5), 0);
        Due.answer("no settings", x.clear(), 0);
        Due.answer("no result", x.count(3), 0);
        Due.refuses("no result", NoSuchElementException.class, () -> x.result(0, -1));
        Due.answer("no line refused", x.errorAt(), -1);
        Due.answer("the first character", x.type('a'), 1);
        x.create(0, 1);
        x.begin();
        x.insert(1, 0, 0, 0, 0, 0);
        Due.answer("the empty condition holds", x.select(1, 0), 1);
        Due.answer("another object is new", new VersionedTables().count(0), 0);
    }

    private static void createMakes() {
        Due.sentence("TABLE k 0 .. 2 is there, with 1 .. 4 COLUMNS and no ROWS.");
        for (int k = 0; k <= 2; k++) {
            for (int columns = 1; columns <= 4; columns++) {
                VersionedTables x = new VersionedTables();
                x.create(k, columns);
                int one = k;
                Due.answer("no rows", x.count(8 + k), 0);
                Due.refuses("no rows", NoSuchElementException.class, () -> x.versions(one, 0));
                x.begin();
                Due.answer("no rows", x.select(1, k), 0);
                Due.setting(x, "abcd".charAt(columns - 1) + "=1");
                Due.answer("the last column is there", x.update(1, k), 0);
                if (columns < 4) {
                    Due.setting(x, "abcd".charAt(columns) + "=1");
                    Due.refuses("the next is not", IllegalArgumentException.class, () -> x.update(1, one));
                }
            }
        }
    }

    private static void createOutOfRange() {
        Due.sentence("IllegalArgumentException: a number out of range.");
        VersionedTables x = new VersionedTables();
        int[] noTable = {MIN, -1, 3, 4, 256, MAX};
        for (int k : noTable) {
            Due.refuses("create(" + k + ", 1)", IllegalArgumentException.class, () -> x.create(k, 1));
        }
        int[] noColumns = {MIN, -1, 0, 5, 257, MAX};
        for (int columns : noColumns) {
            Due.refuses("create(2, " + columns + ")", IllegalArgumentException.class, () -> x.create(2, columns));
        }
        Due.refuses("both", IllegalArgumentException.class, () -> x.create(-1, 0));
        x.create(2, 4);
        x.create(0, 1);
        x.begin();
        Due.answer("nothing was there before", x.insert(1, 2, 0, 0, 0, 0), 0);
    }

    private static void createThere() {
        Due.sentence("IllegalStateException: it is there.");
        for (int k = 0; k <= 2; k++) {
            VersionedTables x = new VersionedTables();
            int one = k;
            x.create(k, 2);
            Due.refuses("without rows", IllegalStateException.class, () -> x.create(one, 2));
            x.begin();
            x.insert(1, k, 1, 2, 3, 4);
            Due.refuses("with rows", IllegalStateException.class, () -> x.create(one, 4));
            x.abort(1);
            Due.refuses("without versions", IllegalStateException.class, () -> x.create(one, 1));
            Due.answer("its row stays", x.count(8 + k), 1);
            x.create((k + 1) % 3, 2);
        }
    }

    private static void beginNumbers() {
        Due.sentence("A TRANSACTION begins: its number.");
        VersionedTables x = new VersionedTables();
        Due.answer("the first", x.begin(), 1);
        x.abort(1);
        Due.answer("a number is not used again", x.begin(), 2);
        x.commit(2);
        Due.answer("a number is not used again", x.begin(), 3);
    }

    private static void beginRefused() {
        Due.sentence("IllegalStateException: 40 have begun.");
        VersionedTables x = Made.table(1, 39);
        Due.answer("the 40th", x.begin(), 40);
        Due.refuses("the 41st, 40 are open", IllegalStateException.class, x::begin);
        for (int t = 1; t <= 40; t++) {
            if (t % 2 == 0) {
                x.commit(t);
            } else {
                x.abort(t);
            }
        }
        Due.refuses("the 41st, none is open", IllegalStateException.class, x::begin);
        Due.answer("begun", x.count(0), 40);
        Due.answer("open", x.count(1), 0);
    }

    private static void commitEnds() {
        Due.sentence("`void commit(int t) throws NoSuchElementException`: t is DONE.");
        VersionedTables x = Made.table(1, 40);
        x.insert(40, 0, 1, 0, 0, 0);
        int[] none = {MIN, -1, 0, 41, 42, MAX};
        for (int t : none) {
            Due.refuses("commit(" + t + ")", NoSuchElementException.class, () -> x.commit(t));
        }
        x.commit(40);
        x.commit(1);
        Due.answer("the first and the last", x.count(2), 2);
        Due.answer("open", x.count(1), 38);
        Due.answer("its version stays", x.count(6), 1);
        Due.refuses("commit(40) again", NoSuchElementException.class, () -> x.commit(40));
        Due.refuses("commit(1) again", NoSuchElementException.class, () -> x.commit(1));
    }

    private static void abortCounts() {
        Due.sentence("`int abort(int t) throws NoSuchElementException`: t is BROKEN: how many VERSIONS go.");
        VersionedTables x = Made.table(1, 40);
        x.create(1, 1);
        x.create(2, 1);
        for (int row = 0; row < 24; row++) {
            for (int k = 0; k < 3; k++) {
                x.insert(40, k, row, 0, 0, 0);
            }
        }
        int[] none = {MIN, -1, 0, 41, 42, MAX};
        for (int t : none) {
            Due.refuses("abort(" + t + ")", NoSuchElementException.class, () -> x.abort(t));
        }
        Due.answer("none", x.abort(1), 0);
        Due.answer("all of three full tables", x.abort(40), 72);
        Due.answer("none is left", x.count(6), 0);
        Due.answer("done", x.count(2), 0);
        Due.answer("open", x.count(1), 38);
        Due.refuses("abort(40) again", NoSuchElementException.class, () -> x.abort(40));
        Due.refuses("abort(1) again", NoSuchElementException.class, () -> x.abort(1));
    }
}
