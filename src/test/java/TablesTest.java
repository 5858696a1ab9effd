import java.util.NoSuchElementException;

/** Promises 1 and 2: a new object, create. */
public final class TablesTest {
    public static void main(String[] args) {
        newObjectIsEmpty();
        newObjectHoldsAlways();
        createMakesATable();
        createKeepsToItsColumns();
        createRefusesNumbers();
        createRefusesWhatIsThere();
        Due.finish();
    }

    private static void newObjectIsEmpty() {
        VersionedTables x = new VersionedTables();
        for (int what = 0; what <= 10; what++) {
            Due.answer("new: count(" + what + ")", x.count(what), 0);
        }
        Due.answer("new: errorAt", x.errorAt(), -1);
        Due.answer("new: clear", x.clear(), 0);
        Due.answer("new: vacuum", x.vacuum(), 0);
        Due.refuses("new: result", NoSuchElementException.class, () -> x.result(0, 0));
        Due.refuses("new: mean", ArithmeticException.class, () -> x.mean(0));
        Due.refuses("new: commit", NoSuchElementException.class, () -> x.commit(1));
        Due.refuses("new: versions", NoSuchElementException.class, () -> x.versions(0, 0));
        Due.answer("new: begin", x.begin(), 1);
        Due.refuses("new: no table", NoSuchElementException.class, () -> x.select(1, 0));
    }

    private static void newObjectHoldsAlways() {
        VersionedTables x = new VersionedTables();
        x.create(0, 1);
        x.begin();
        x.insert(1, 0, 0, 0, 0, 0);
        x.insert(1, 0, 7, 0, 0, 0);
        Due.answer("the first condition always holds", x.select(1, 0), 2);
    }

    private static void createMakesATable() {
        for (int k = 0; k <= 2; k++) {
            VersionedTables x = new VersionedTables();
            x.create(k, k + 1);
            x.begin();
            Due.answer("a new table has no rows", x.count(8 + k), 0);
            Due.answer("select in table " + k, x.select(1, k), 0);
            Due.answer("insert in table " + k, x.insert(1, k, 1, 1, 1, 1), 0);
            int other = (k + 1) % 3;
            Due.refuses("only table " + k + " is there", NoSuchElementException.class, () -> x.select(1, other));
        }
    }

    private static void createKeepsToItsColumns() {
        for (int columns = 1; columns <= 4; columns++) {
            VersionedTables x = new VersionedTables();
            x.create(2, columns);
            x.begin();
            x.insert(1, 2, 5, 6, 7, 8);
            x.select(1, 2);
            for (int column = 0; column < 4; column++) {
                Due.answer(columns + " columns: result(0, " + column + ")", x.result(0, column),
                    column < columns ? 5 + column : 0);
            }
        }
    }

    private static void createRefusesNumbers() {
        VersionedTables x = new VersionedTables();
        Due.refuses("create(-1, 1)", IllegalArgumentException.class, () -> x.create(-1, 1));
        Due.refuses("create(3, 1)", IllegalArgumentException.class, () -> x.create(3, 1));
        Due.refuses("create(0, 0)", IllegalArgumentException.class, () -> x.create(0, 0));
        Due.refuses("create(0, 5)", IllegalArgumentException.class, () -> x.create(0, 5));
        Due.refuses("create(MIN, MAX)", IllegalArgumentException.class,
            () -> x.create(Integer.MIN_VALUE, Integer.MAX_VALUE));
        Due.refuses("nothing was made", NoSuchElementException.class, () -> x.versions(0, 0));
        x.begin();
        Due.refuses("there is no table", NoSuchElementException.class, () -> x.select(1, 0));
    }

    private static void createRefusesWhatIsThere() {
        VersionedTables x = new VersionedTables();
        x.create(1, 2);
        x.begin();
        x.insert(1, 1, 3, 4, 5, 6);
        Due.refuses("create again", IllegalStateException.class, () -> x.create(1, 4));
        Due.refuses("promise 20: columns out of range first", IllegalArgumentException.class, () -> x.create(1, 5));
        Due.refuses("promise 20: columns out of range first", IllegalArgumentException.class, () -> x.create(1, 0));
        Due.answer("the rows stay", x.count(9), 1);
        x.insert(1, 1, 3, 4, 5, 6);
        x.select(1, 1);
        Due.answer("the columns stay", x.result(1, 2), 0);
    }
}
