import java.util.NoSuchElementException;

/** Promises 17 to 19: vacuum, versions, count. */
public final class CountsTest {
    public static void main(String[] args) {
        vacuumKeepsTheNewest();
        vacuumKeepsWhatAnOpenOneSees();
        vacuumAtTheLeastOpen();
        vacuumLeavesOpenVersions();
        vacuumGoesThroughAllTables();
        vacuumKeepsGoneOnes();
        limitsAreCounted();
        versionsRefuses();
        countTellsAll();
        countElse();
        Due.finish();
    }

    /** Table 0 with a row of the versions 1 .. last, all of them done. */
    private static VersionedTables rowWithVersions(int last) {
        VersionedTables x = new VersionedTables();
        x.create(0, 1);
        x.begin();
        x.insert(1, 0, 1, 0, 0, 0);
        x.commit(1);
        for (int t = 2; t <= last; t++) {
            x.begin();
            x.update(t, 0);
            x.commit(t);
        }
        return x;
    }

    private static void vacuumKeepsTheNewest() {
        VersionedTables x = rowWithVersions(5);
        Due.answer("versions", x.versions(0, 0), 5);
        Due.answer("vacuum", x.vacuum(), 4);
        Due.answer("versions", x.versions(0, 0), 1);
        Due.answer("vacuum again", x.vacuum(), 0);
        x.begin();
        Due.answer("the newest is seen", x.select(6, 0), 1);
    }

    private static void limitsAreCounted() {
        VersionedTables x = rowWithVersions(40);
        Due.answer("40 versions of a row", x.versions(0, 0), 40);
        Due.answer("count(6)", x.count(6), 40);
        Due.answer("vacuum", x.vacuum(), 39);
        VersionedTables y = new VersionedTables();
        y.create(1, 1);
        y.begin();
        for (int row = 0; row < 24; row++) {
            y.insert(1, 1, row, 0, 0, 0);
        }
        y.commit(1);
        y.begin();
        Due.answer("24 rows written", y.update(2, 1), 24);
        y.commit(2);
        Due.answer("versions of 24 rows", y.count(6), 48);
        Due.answer("versions of the last row", y.versions(1, 23), 2);
        Due.answer("vacuum of 24 rows", y.vacuum(), 24);
    }

    private static void vacuumKeepsWhatAnOpenOneSees() {
        VersionedTables x = rowWithVersions(2);
        x.begin();
        x.begin();
        x.update(4, 0);
        x.commit(4);
        Due.answer("versions 1, 2, 4", x.versions(0, 0), 3);
        Due.answer("3 sees 2", x.vacuum(), 1);
        Due.answer("select at 3", x.select(3, 0), 1);
        x.commit(3);
        Due.answer("none is open", x.vacuum(), 1);
        Due.answer("version 4", x.versions(0, 0), 1);
    }

    private static void vacuumAtTheLeastOpen() {
        VersionedTables x = rowWithVersions(1);
        x.begin();
        x.begin();
        x.begin();
        x.update(3, 0);
        x.commit(3);
        Due.answer("2 is the least open one", x.vacuum(), 0);
        x.abort(2);
        Due.answer("4 is the least open one", x.vacuum(), 1);
    }

    private static void vacuumLeavesOpenVersions() {
        VersionedTables x = rowWithVersions(2);
        x.begin();
        x.update(3, 0);
        Due.answer("version 1 goes", x.vacuum(), 1);
        Due.answer("versions 2 and 3", x.versions(0, 0), 2);
        Due.answer("3 is open", x.vacuum(), 0);
        x.commit(3);
        Due.answer("version 2 goes", x.vacuum(), 1);
    }

    private static void vacuumGoesThroughAllTables() {
        VersionedTables x = new VersionedTables();
        for (int k = 2; k >= 0; k--) {
            x.create(k, 1);
        }
        for (int t = 1; t <= 2; t++) {
            x.begin();
            for (int k = 0; k < 3; k++) {
                x.insert(t, k, t, 0, 0, 0);
                x.insert(t, k, t, 0, 0, 0);
                x.update(t, k);
            }
            x.commit(t);
        }
        Due.answer("versions", x.count(6), 18);
        Due.answer("vacuum", x.vacuum(), 6);
        Due.answer("one a row", x.count(6), 12);
        Due.answer("the rows stay", x.count(10), 4);
    }

    private static void vacuumKeepsGoneOnes() {
        VersionedTables x = rowWithVersions(1);
        x.begin();
        x.delete(2, 0);
        x.commit(2);
        Due.answer("vacuum", x.vacuum(), 1);
        Due.answer("the gone one stays", x.versions(0, 0), 1);
        x.begin();
        Due.answer("the row is gone", x.select(3, 0), 0);
    }

    private static void versionsRefuses() {
        VersionedTables x = rowWithVersions(1);
        int[] noRow = {Integer.MIN_VALUE, -1, 1, 23, 24, Integer.MAX_VALUE};
        for (int row : noRow) {
            Due.refuses("versions(0, " + row + ")", NoSuchElementException.class, () -> x.versions(0, row));
        }
        int[] noTable = {Integer.MIN_VALUE, -1, 1, 2, 3, Integer.MAX_VALUE};
        for (int k : noTable) {
            Due.refuses("versions(" + k + ", 0)", NoSuchElementException.class, () -> x.versions(k, 0));
        }
        x.begin();
        x.insert(2, 0, 0, 0, 0, 0);
        x.abort(2);
        Due.answer("a row without versions", x.versions(0, 1), 0);
    }

    private static void countTellsAll() {
        VersionedTables x = rowWithVersions(3);
        x.create(2, 2);
        for (int t = 4; t <= 9; t++) {
            x.begin();
        }
        x.insert(8, 2, 0, 0, 0, 0);
        x.insert(8, 2, 0, 0, 0, 0);
        x.abort(4);
        x.select(8, 0);
        Due.refuses("TOO LATE", UnsupportedOperationException.class, () -> x.update(5, 0));
        Due.setting(x, "a=1");
        Due.setting(x, "b=1");
        Due.type(x, "abcde");
        int[] due = {9, 4, 3, 1, 5, 2, 5, 1, 1, 0, 2};
        for (int what = 0; what < due.length; what++) {
            Due.answer("count(" + what + ")", x.count(what), due[what]);
        }
        Due.refuses("TOO LATE", UnsupportedOperationException.class, () -> x.insert(6, 0, 0, 0, 0, 0));
        Due.answer("two broken by TOO LATE", x.count(7), 2);
        Due.answer("three open", x.count(1), 3);
    }

    private static void countElse() {
        VersionedTables x = rowWithVersions(2);
        int[] none = {Integer.MIN_VALUE, -8, -1, 11, 12, Integer.MAX_VALUE};
        for (int what : none) {
            Due.answer("count(" + what + ")", x.count(what), -1);
        }
    }
}
