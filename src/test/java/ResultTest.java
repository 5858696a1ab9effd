import java.util.NoSuchElementException;

/** Promises 15 and 16: result, mean. */
public final class ResultTest {
    public static void main(String[] args) {
        resultTellsNumbersAndValues();
        resultRefuses();
        meanIsOfTheResult();
        meanOfGreatValues();
        meanRefuses();
        Due.finish();
    }

    private static VersionedTables selected() {
        VersionedTables x = new VersionedTables();
        x.create(1, 3);
        x.begin();
        x.insert(1, 1, 4, -7, 9, 5);
        x.insert(1, 1, 5, -8, 9, 5);
        x.insert(1, 1, 6, -8, 9, 5);
        Due.where(x, "a>4");
        x.select(1, 1);
        return x;
    }

    private static void resultTellsNumbersAndValues() {
        VersionedTables x = selected();
        Due.answer("rows", x.count(3), 2);
        Due.answer("number of the first", x.result(0, -1), 1);
        Due.answer("number of the second", x.result(1, -1), 2);
        Due.answer("a", x.result(0, 0), 5);
        Due.answer("b", x.result(0, 1), -8);
        Due.answer("c", x.result(1, 2), 9);
        Due.answer("d, which the table has not", x.result(1, 3), 0);
    }

    private static void resultRefuses() {
        VersionedTables x = selected();
        int[] noRow = {Integer.MIN_VALUE, -1, 2, 23, 24, Integer.MAX_VALUE};
        for (int i : noRow) {
            Due.refuses("result(" + i + ", 0)", NoSuchElementException.class, () -> x.result(i, 0));
            Due.refuses("promise 20: the row first", NoSuchElementException.class, () -> x.result(i, 4));
        }
        int[] noColumn = {Integer.MIN_VALUE, -2, 4, Integer.MAX_VALUE};
        for (int column : noColumn) {
            Due.refuses("result(0, " + column + ")", IndexOutOfBoundsException.class, () -> x.result(0, column));
        }
    }

    private static void meanIsOfTheResult() {
        VersionedTables x = selected();
        Due.answer("mean(0)", x.mean(0), 5.5);
        Due.answer("mean(1)", x.mean(1), -8.0);
        Due.answer("mean(2)", x.mean(2), 9.0);
        Due.answer("mean(3)", x.mean(3), 0.0);
        x.where();
        x.select(1, 1);
        Due.answer("of three", x.mean(1), -23.0 / 3);
    }

    private static void meanOfGreatValues() {
        VersionedTables x = new VersionedTables();
        x.create(0, 2);
        x.begin();
        for (int i = 0; i < 24; i++) {
            x.insert(1, 0, Integer.MAX_VALUE, i == 0 ? Integer.MAX_VALUE : Integer.MIN_VALUE, 0, 0);
        }
        x.select(1, 0);
        Due.answer("the sum is a long", x.mean(0), 2147483647.0);
        Due.answer("the sum is a long", x.mean(1), (2147483647L - 23L * 2147483648L) / 24.0);
    }

    private static void meanRefuses() {
        VersionedTables x = selected();
        int[] noColumn = {Integer.MIN_VALUE, -1, 4, Integer.MAX_VALUE};
        for (int column : noColumn) {
            Due.refuses("mean(" + column + ")", IndexOutOfBoundsException.class, () -> x.mean(column));
        }
        Due.where(x, "a=0");
        x.select(1, 1);
        Due.refuses("an empty result", ArithmeticException.class, () -> x.mean(0));
        Due.refuses("the column first", IndexOutOfBoundsException.class, () -> x.mean(-1));
        Due.refuses("the column first", IndexOutOfBoundsException.class, () -> x.mean(4));
    }
}
