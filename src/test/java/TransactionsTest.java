import java.util.NoSuchElementException;

/** Promises 8 to 10: begin, commit, abort. */
public final class TransactionsTest {
    public static void main(String[] args) {
        beginNumbersThem();
        commitEndsOne();
        abortEndsOne();
        abortTakesVersions();
        abortKeepsWhatWasRead();
        onlyOpenOnesAreThere();
        Due.finish();
    }

    private static void beginNumbersThem() {
        VersionedTables x = new VersionedTables();
        for (int t = 1; t <= 40; t++) {
            Due.answer("begin", x.begin(), t);
        }
        Due.refuses("the 41st", IllegalStateException.class, x::begin);
        x.commit(40);
        x.abort(39);
        Due.refuses("ended ones count too", IllegalStateException.class, x::begin);
        Due.answer("begun", x.count(0), 40);
        Due.answer("open", x.count(1), 38);
    }

    private static void commitEndsOne() {
        VersionedTables x = new VersionedTables();
        x.create(0, 1);
        x.begin();
        x.begin();
        x.insert(2, 0, 5, 0, 0, 0);
        x.commit(2);
        Due.answer("open", x.count(1), 1);
        Due.answer("done", x.count(2), 1);
        Due.answer("its version stays", x.versions(0, 0), 1);
        Due.refuses("commit again", NoSuchElementException.class, () -> x.commit(2));
        Due.refuses("abort after commit", NoSuchElementException.class, () -> x.abort(2));
        x.begin();
        Due.answer("seen by later ones", x.select(3, 0), 1);
        Due.answer("not seen by earlier ones", x.select(1, 0), 0);
    }

    private static void abortEndsOne() {
        VersionedTables x = new VersionedTables();
        x.begin();
        Due.answer("abort without versions", x.abort(1), 0);
        Due.answer("open", x.count(1), 0);
        Due.answer("done", x.count(2), 0);
        Due.answer("not by TOO LATE", x.count(7), 0);
        Due.refuses("abort again", NoSuchElementException.class, () -> x.abort(1));
        Due.refuses("commit after abort", NoSuchElementException.class, () -> x.commit(1));
    }

    private static void abortTakesVersions() {
        VersionedTables x = new VersionedTables();
        x.create(0, 1);
        x.create(2, 1);
        x.begin();
        x.insert(1, 0, 1, 0, 0, 0);
        x.insert(1, 2, 2, 0, 0, 0);
        x.commit(1);
        x.begin();
        x.insert(2, 0, 3, 0, 0, 0);
        Due.setting(x, "a=a+5");
        Due.answer("two rows written", x.update(2, 0), 2);
        Due.answer("one row gone", x.delete(2, 2), 1);
        Due.answer("versions", x.count(6), 5);
        Due.answer("abort", x.abort(2), 3);
        Due.answer("versions", x.count(6), 2);
        Due.answer("the row keeps its number", x.count(8), 2);
        Due.answer("and has no versions", x.versions(0, 1), 0);
        x.begin();
        Due.answer("the old state", x.select(3, 0), 1);
        Due.answer("the old value", x.result(0, 0), 1);
        Due.answer("the next row's number", x.insert(3, 0, 9, 0, 0, 0), 2);
    }

    private static void abortKeepsWhatWasRead() {
        VersionedTables x = new VersionedTables();
        x.create(0, 1);
        x.begin();
        x.insert(1, 0, 1, 0, 0, 0);
        x.commit(1);
        for (int t = 2; t <= 4; t++) {
            x.begin();
        }
        x.select(4, 0);
        x.abort(4);
        Due.refuses("read at 4", UnsupportedOperationException.class, () -> x.delete(2, 0));
        Due.refuses("scanned at 4", UnsupportedOperationException.class, () -> x.insert(3, 0, 1, 0, 0, 0));
    }

    private static void onlyOpenOnesAreThere() {
        VersionedTables x = new VersionedTables();
        x.create(0, 1);
        x.begin();
        x.begin();
        x.begin();
        x.commit(1);
        x.abort(2);
        int[] none = {Integer.MIN_VALUE, -1, 0, 1, 2, 4, 40, 41, Integer.MAX_VALUE};
        for (int t : none) {
            Due.refuses("commit(" + t + ")", NoSuchElementException.class, () -> x.commit(t));
            Due.refuses("abort(" + t + ")", NoSuchElementException.class, () -> x.abort(t));
            Due.refuses("insert at " + t, NoSuchElementException.class, () -> x.insert(t, 0, 1, 1, 1, 1));
            Due.refuses("select at " + t, NoSuchElementException.class, () -> x.select(t, 0));
            Due.refuses("update at " + t, NoSuchElementException.class, () -> x.update(t, 0));
            Due.refuses("delete at " + t, NoSuchElementException.class, () -> x.delete(t, 0));
        }
        int[] noTable = {Integer.MIN_VALUE, -1, 1, 2, 3, Integer.MAX_VALUE};
        for (int k : noTable) {
            Due.refuses("insert in " + k, NoSuchElementException.class, () -> x.insert(3, k, 1, 1, 1, 1));
            Due.refuses("select in " + k, NoSuchElementException.class, () -> x.select(3, k));
            Due.refuses("update in " + k, NoSuchElementException.class, () -> x.update(3, k));
            Due.refuses("delete in " + k, NoSuchElementException.class, () -> x.delete(3, k));
        }
        Due.answer("3 is open still", x.count(1), 1);
        Due.answer("no rows", x.count(8), 0);
    }
}
