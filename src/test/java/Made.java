/** Objects that the tests of boundary cases begin with. */
final class Made {
    private Made() {
    }

    /** Table 0 of so many columns, without rows; the transactions 1 .. open have begun. */
    static VersionedTables table(int columns, int open) {
        VersionedTables x = new VersionedTables();
        x.create(0, columns);
        begin(x, open);
        return x;
    }

    /** Table 0 of two columns; 1 is done and has made a row (a, 10 * a) of each value; 2 .. last have begun. */
    static VersionedTables rows(int last, int... values) {
        VersionedTables x = table(2, 1);
        for (int a : values) {
            x.insert(1, 0, a, 10 * a, 0, 0);
        }
        x.commit(1);
        begin(x, last - 1);
        return x;
    }

    /** As rows, with the values 0 .. 23. */
    static VersionedTables fullTable(int last) {
        int[] values = new int[24];
        for (int a = 0; a < 24; a++) {
            values[a] = a;
        }
        return rows(last, values);
    }

    /** Table 0 of one column with a row that the transactions 1 .. last have written, all of them done. */
    static VersionedTables rowWithVersions(int last) {
        VersionedTables x = table(1, 1);
        x.insert(1, 0, 1, 0, 0, 0);
        x.commit(1);
        for (int t = 2; t <= last; t++) {
            x.begin();
            x.update(t, 0);
            x.commit(t);
        }
        return x;
    }

    static void begin(VersionedTables x, int many) {
        for (int i = 0; i < many; i++) {
            x.begin();
        }
    }

    /** Whether the condition holds for a row of a table with the columns a and b. */
    static boolean holds(String condition, int a, int b) {
        VersionedTables x = table(2, 1);
        x.insert(1, 0, a, b, 7, 7);
        Due.where(x, condition);
        return x.select(1, 0) == 1;
    }

    /** The value of a term for a row of a table with the columns a and b. */
    static int worked(String term, int a, int b) {
        VersionedTables x = table(2, 1);
        x.insert(1, 0, a, b, 7, 7);
        Due.setting(x, "b=" + term);
        x.update(1, 0);
        x.select(1, 0);
        return x.result(0, 1);
    }
}
