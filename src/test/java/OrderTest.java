/** Promise 20: order and limits of statements (those of create, type and result stand with their promises). */
public final class OrderTest {
    public static void main(String[] args) {
        waitOfTheFirstRow();
        divisionOfTheFirstRow();
        waitBeforeDivisionInASetting();
        divisionInASettingBeforeTooLate();
        divisionInAConditionBeforeTooLate();
        bothSidesAreWorkedOut();
        manyDivisionsLeaveNothingBehind();
        settingsOfAllRowsBeforeAnyIsWritten();
        settingsOnlyOfRowsThatHold();
        Due.finish();
    }

    /** Table 0 with the rows 0 (a = 0) and 1 (a = 4) of the given writers; 2 and 3 are open, 1 is done. */
    private static VersionedTables rowsBy(int firstWriter, int secondWriter) {
        VersionedTables x = new VersionedTables();
        x.create(0, 1);
        for (int t = 1; t <= 3; t++) {
            x.begin();
        }
        x.insert(firstWriter, 0, 0, 0, 0, 0);
        x.insert(secondWriter, 0, 4, 0, 0, 0);
        x.commit(1);
        return x;
    }

    private static void waitOfTheFirstRow() {
        VersionedTables x = rowsBy(2, 1);
        Due.where(x, "1/0=1");
        Due.refuses("select", IllegalStateException.class, () -> x.select(3, 0));
        Due.refuses("update", IllegalStateException.class, () -> x.update(3, 0));
        Due.refuses("delete", IllegalStateException.class, () -> x.delete(3, 0));
    }

    private static void divisionOfTheFirstRow() {
        VersionedTables x = rowsBy(1, 2);
        Due.where(x, "8/a=2");
        Due.refuses("select", ArithmeticException.class, () -> x.select(3, 0));
        Due.refuses("update", ArithmeticException.class, () -> x.update(3, 0));
        Due.refuses("delete", ArithmeticException.class, () -> x.delete(3, 0));
    }

    private static void waitBeforeDivisionInASetting() {
        VersionedTables x = rowsBy(1, 2);
        Due.setting(x, "a=8/a");
        Due.refuses("update", IllegalStateException.class, () -> x.update(3, 0));
        x.commit(2);
        Due.refuses("update", ArithmeticException.class, () -> x.update(3, 0));
    }

    private static void divisionInASettingBeforeTooLate() {
        VersionedTables x = rowsBy(1, 1);
        x.select(3, 0);
        Due.setting(x, "a=8/a");
        Due.refuses("update", ArithmeticException.class, () -> x.update(2, 0));
        Due.answer("2 is open", x.count(1), 2);
        Due.where(x, "a>0");
        Due.refuses("update", UnsupportedOperationException.class, () -> x.update(2, 0));
    }

    private static void divisionInAConditionBeforeTooLate() {
        VersionedTables x = rowsBy(1, 1);
        x.select(3, 0);
        Due.where(x, "8/a=2");
        Due.refuses("delete", ArithmeticException.class, () -> x.delete(2, 0));
        Due.answer("2 is open", x.count(1), 2);
    }

    private static void bothSidesAreWorkedOut() {
        VersionedTables x = rowsBy(1, 1);
        String[] conditions = {"a=0|1/a=1", "a=9&1/a=1", "1/a=1|a=0", "1/a=1&a=9", "!(a=0|1/a=1)", "1/0=1", "a=1/b"};
        for (String condition : conditions) {
            Due.where(x, condition);
            Due.refuses(condition, ArithmeticException.class, () -> x.select(2, 0));
        }
    }

    private static void manyDivisionsLeaveNothingBehind() {
        VersionedTables x = rowsBy(1, 1);
        x.create(1, 1);
        x.insert(2, 1, 1, 0, 0, 0);
        x.insert(2, 1, 2, 0, 0, 0);
        Due.where(x, "a=1&1/a=1");
        for (int i = 0; i < 60; i++) {
            Due.refuses("row 0 divides by 0", ArithmeticException.class, () -> x.select(2, 0));
        }
        Due.answer("the same condition elsewhere", x.select(2, 1), 1);
    }

    private static void settingsOfAllRowsBeforeAnyIsWritten() {
        VersionedTables x = rowsBy(1, 1);
        Due.setting(x, "a=a-4");
        Due.answer("update", x.update(2, 0), 2);
        x.clear();
        Due.setting(x, "a=8/a");
        Due.refuses("the second row divides by 0", ArithmeticException.class, () -> x.update(2, 0));
        x.select(2, 0);
        Due.answer("the first row is not written", x.result(0, 0), -4);
    }

    private static void settingsOnlyOfRowsThatHold() {
        VersionedTables x = rowsBy(1, 1);
        Due.setting(x, "a=8/a");
        Due.where(x, "a>0");
        Due.answer("update", x.update(2, 0), 1);
        x.select(2, 0);
        Due.answer("8/4", x.result(0, 0), 2);
    }
}
