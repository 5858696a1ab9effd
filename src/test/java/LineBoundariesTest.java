/**
 * Boundary cases of the line, of conditions and of settings, a test for each sentence: the middle of the
 * section Terms, and the promises 3 to 7.
 */
public final class LineBoundariesTest {
    private static final int MIN = Integer.MIN_VALUE;
    private static final int MAX = Integer.MAX_VALUE;
    private static final String FULL = "a=1|(b=2&c=3)|!d=4|a+b*c-d/7=9999|d<0000";
    private static final String FULL_SETTING = "a=a+b*c-d/7+8888+a-a+b-b+c-c+d-d+0*a+123";

    public static void main(String[] args) {
        lineLimits();
        wholeText();
        allFromTheLeft();
        parts();
        terms();
        items();
        emptyCondition();
        openBrackets();
        settingForm();
        columnsNotThere();
        wrapAround();
        bothSides();
        notEqual();
        typeLengths();
        typeOutOfRange();
        typeFull();
        whereTakes();
        whereRefuses();
        settingTakes();
        settingRefuses();
        clearCounts();
        errorAtTells();
        Due.finish();
    }

    private static void lineLimits() {
        Due.sentence("THE LINE holds at most 40 characters 0 .. 127.");
        VersionedTables x = new VersionedTables();
        for (int i = 0; i < 40; i++) {
            Due.answer("type", x.type(i % 2 == 0 ? 0 : 127), i + 1);
        }
        Due.refuses("the 41st", IllegalStateException.class, () -> x.type(0));
        Due.refuses("41 characters are no line", IllegalStateException.class, () -> x.type(127));
        Due.answer("40 stay", x.count(4), 40);
    }

    private static void wholeText() {
        Due.sentence("A CONDITION is a whole text");
        String[] behind = {"a", "1234", ")", "!", "(", " ", "=", "\0", "\n", "~", "\u007f"};
        for (String text : behind) {
            conditionErrs("(a=1)" + text, 5);
        }
        conditionErrs(" a=1", 0);
        conditionErrs("a =1", 1);
        conditionErrs("a= 1", 2);
        conditionErrs("a=1 ", 3);
        conditionErrs("a=1 2", 3);
    }

    private static void allFromTheLeft() {
        Due.sentence("ALL: a PART, or ALL & PART, or ALL | PART (from the left).");
        Due.holds("a=1|a=2&b=2 is (a=1|a=2)&b=2", !Made.holds("a=1|a=2&b=2", 1, 1));
        Due.holds("a=2&b=2|a=1 is (a=2&b=2)|a=1", Made.holds("a=2&b=2|a=1", 1, 1));
        Due.holds("one part", Made.holds("a=1", 1, 1));
        String steps = "!a=2" + "&a=1".repeat(9);
        Due.answer("a full line without digits to join", steps.length(), 40);
        Due.holds("each character counts", Made.holds(steps, 1, 1));
        Due.holds("each character counts, to the last", !Made.holds("!a=2" + "&a=1".repeat(8) + "&a=0", 1, 1));
        Due.holds("ten parts", Made.holds("a=1|a=1|a=1|a=1|a=1|a=1|a=1|a=1|a=1&b=1", 1, 1));
        Due.holds("ten parts, the last is not so", !Made.holds("a=1|a=1|a=1|a=1|a=1|a=1|a=1|a=1|a=1&b=2", 1, 1));
        conditionErrs("&", 0);
        conditionErrs("|a=1", 0);
        conditionErrs("a=1&", 4);
        conditionErrs("a=1|", 4);
        conditionErrs("a=1||a=1", 4);
        conditionErrs("a=1|&a=1", 4);
    }

    private static void parts() {
        Due.sentence("PART: a TERM, one of = # < >, a TERM; or ! PART; or ( ALL ).");
        int[] values = {MIN, MIN + 1, -1, 0, 1, MAX - 1, MAX};
        for (int a : values) {
            for (int b : values) {
                String told = "for " + a + " and " + b;
                Due.holds("a=b " + told, Made.holds("a=b", a, b) == (a == b));
                Due.holds("a#b " + told, Made.holds("a#b", a, b) == (a != b));
                Due.holds("a<b " + told, Made.holds("a<b", a, b) == (a < b));
                Due.holds("a>b " + told, Made.holds("a>b", a, b) == (a > b));
                Due.holds("!a<b " + told, Made.holds("!a<b", a, b) == (a >= b));
                Due.holds("(a>b) " + told, Made.holds("(a>b)", a, b) == (a > b));
            }
        }
        Due.holds("! is of its part alone", Made.holds("!a=1|b=1", 1, 1));
        Due.holds("! of an all in brackets", !Made.holds("!(a=1|b=1)", 1, 1));
        conditionErrs("a", 1);
        conditionErrs("a:", 1);
        conditionErrs("a?b", 1);
        conditionErrs("a;b", 1);
        conditionErrs("a\"b", 1);
        conditionErrs("a$b", 1);
        conditionErrs("a<>b", 2);
        conditionErrs("a=b=c", 3);
        conditionErrs("!", 1);
        conditionErrs("!)", 1);
        conditionErrs("(", 1);
        conditionErrs("()", 1);
        conditionErrs(")", 0);
        conditionErrs("(a=b", 4);
        conditionErrs("(a=b&", 5);
        conditionErrs("(a=b]", 4);
        conditionErrs("(a=b))", 5);
        conditionErrs("(a=b)!", 5);
        conditionErrs("(a=b)a", 5);
        conditionErrs("(a)", 2);
    }

    private static void terms() {
        Due.sentence("TERM: an ITEM, or TERM + ITEM, TERM - ITEM, TERM * ITEM, TERM / ITEM (all from the left alike).");
        Due.answer("1+2*3", Made.worked("1+2*3", 0, 0), 9);
        Due.answer("7-2-1", Made.worked("7-2-1", 0, 0), 4);
        Due.answer("8/4/2", Made.worked("8/4/2", 0, 0), 1);
        Due.answer("9-4/2", Made.worked("9-4/2", 0, 0), 2);
        Due.answer("one item", Made.worked("8", 0, 0), 8);
        Due.answer("19 items", Made.worked("1+1+1+1+1+1+1+1+1+1+1+1+1+1+1+1+1+1+10", 0, 0), 28);
        Due.holds("both sides of a comparison", Made.holds("a+1*2=b-1*2", 1, 3));
        settingErrs("a=+1", 2);
        settingErrs("a=-1", 2);
        settingErrs("a=1+", 4);
        settingErrs("a=1/", 4);
        settingErrs("a=1+-1", 4);
        settingErrs("a=1**1", 4);
        settingErrs("a=1%1", 3);
        settingErrs("a=1,1", 3);
        settingErrs("a=1.1", 3);
        settingErrs("a=(1)", 2);
        settingErrs("a=a+(1)", 4);
    }

    private static void items() {
        Due.sentence("ITEM: a COLUMN a .. d, or 1 to 4 digits.");
        Due.answer("a", Made.worked("a", 5, 6), 5);
        Due.answer("b", Made.worked("b", 5, 6), 6);
        Due.answer("0", Made.worked("0", 5, 6), 0);
        Due.answer("9", Made.worked("9", 5, 6), 9);
        Due.answer("10", Made.worked("10", 5, 6), 10);
        Due.answer("100", Made.worked("100", 5, 6), 100);
        Due.answer("1000", Made.worked("1000", 5, 6), 1000);
        Due.answer("9999", Made.worked("9999", 5, 6), 9999);
        Due.answer("0000", Made.worked("0000", 5, 6), 0);
        Due.answer("0009", Made.worked("0009", 5, 6), 9);
        conditionErrs("`=1", 0);
        conditionErrs("e=1", 0);
        conditionErrs("A=1", 0);
        conditionErrs("D=1", 0);
        conditionErrs("/=1", 0);
        conditionErrs(":=1", 0);
        conditionErrs("=1", 0);
        conditionErrs("aa=1", 1);
        conditionErrs("1a=1", 1);
        conditionErrs("a1=1", 1);
        conditionErrs("1234a=1", 4);
        conditionErrs("12345=1", 4);
        conditionErrs("a=12345", 6);
        conditionErrs("00000=1", 4);
        settingErrs("a=10000", 6);
        settingErrs("a=e", 2);
        settingErrs("a=", 2);
        settingErrs("a=1+12345", 8);
    }

    private static void emptyCondition() {
        Due.sentence("The empty text is a CONDITION that always holds.");
        VersionedTables x = Made.rows(2, 0, MIN, 5);
        Due.where(x, "a=1&a=2");
        Due.answer("no row", x.select(2, 0), 0);
        x.where();
        Due.answer("every row", x.select(2, 0), 3);
        Due.answer("taken", x.errorAt(), -1);
        Due.answer("every row is written", x.delete(2, 0), 3);
        conditionErrs("()", 1);
        conditionErrs("!", 1);
        conditionErrs(" ", 0);
        conditionErrs("\0", 0);
    }

    private static void openBrackets() {
        Due.sentence("At most 5 brackets ( and ! may be open at a time.");
        String[] fine = {"(((((a=1)))))", "!!!!!a=2", "(!(!(a=1)))", "!(!(!a=2))", "((((!a=2))))", "!!!!(a=1)",
            "(((((a=1)))))&(((((b=1)))))", "!!!!!a=2&!!!!!b=2", "((((!a=2&!b=2|(a=1)))))", "!!!!!a=2&(((((b=1)))))",
            "(((((a=1))))&((((b=1)))))", "((((a=1)&(a=1))&(a=1))&!a=2)&!!!!!a=2"};
        for (String text : fine) {
            Due.holds(text, Made.holds(text, 1, 1));
        }
        conditionErrs("((((((a=1))))))", 5);
        conditionErrs("!!!!!!a=1", 5);
        conditionErrs("(!(!(!a=1", 5);
        conditionErrs("!(!(!(a=1", 5);
        conditionErrs("(((((!a=1", 5);
        conditionErrs("!!!!!(a=1)", 5);
        conditionErrs("(((((a=1&(a=1", 9);
        conditionErrs("(((((a=1&!a=1", 9);
        conditionErrs("(((((a=1)&((a=1", 11);
        conditionErrs("(((((a=1)&(!a=1", 11);
        conditionErrs("!!!!!a=1&!!!!!!a=1", 14);
        conditionErrs("(!!!!a=1&!!!!!a=1", 13);
        conditionErrs("((((((", 5);
        conditionErrs("(((((", 5);
        conditionErrs("!!!!!", 5);
    }

    private static void settingForm() {
        Due.sentence("A SETTING is a COLUMN, = and a TERM.");
        for (char column = 'a'; column <= 'd'; column++) {
            Due.answer("a setting of " + column, Due.setting(new VersionedTables(), column + "=d"), 1);
        }
        settingErrs("", 0);
        settingErrs("`=1", 0);
        settingErrs("e=1", 0);
        settingErrs("1=1", 0);
        settingErrs("=1", 0);
        settingErrs("(a=1)", 0);
        settingErrs("!a=1", 0);
        settingErrs("a", 1);
        settingErrs("a<1", 1);
        settingErrs("a>1", 1);
        settingErrs("a#1", 1);
        settingErrs("a+1=1", 1);
        settingErrs("a=", 2);
        settingErrs("a==1", 2);
        settingErrs("a=1=1", 3);
        settingErrs("a=1&b=1", 3);
        settingErrs("a=1|b=1", 3);
        settingErrs("a=1)", 3);
        settingErrs("a=1 ", 3);
    }

    private static void columnsNotThere() {
        Due.sentence("A COLUMN that the TABLE does not have counts as 0 in it.");
        for (int columns = 1; columns <= 4; columns++) {
            VersionedTables x = Made.table(columns, 1);
            x.insert(1, 0, 1, 2, 3, 4);
            for (int column = 0; column < 4; column++) {
                int value = column < columns ? column + 1 : 0;
                Due.where(x, "abcd".charAt(column) + "=" + value);
                Due.answer("column " + column + " of " + columns + " in a condition", x.select(1, 0), 1);
            }
            x.where();
            Due.setting(x, "a=a*10+b*10+c*10+d");
            x.update(1, 0);
            x.select(1, 0);
            int[] due = {1000, 1200, 1230, 1234};
            Due.answer(columns + " columns in a setting", x.result(0, 0), due[columns - 1]);
        }
        VersionedTables x = Made.rows(2, 8);
        Due.where(x, "a/c=1");
        Due.refuses("a division by it in a condition", ArithmeticException.class, () -> x.select(2, 0));
        x.where();
        Due.setting(x, "a=a/d");
        Due.refuses("a division by it in a setting", ArithmeticException.class, () -> x.update(2, 0));
    }

    private static void wrapAround() {
        Due.sentence("+ - * wrap as ints, / is Java's; a division by 0: ArithmeticException.");
        Due.answer("MAX + 1", Made.worked("a+1", MAX, 0), MIN);
        Due.answer("MIN + MIN", Made.worked("a+b", MIN, MIN), 0);
        Due.answer("MIN - 1", Made.worked("a-1", MIN, 0), MAX);
        Due.answer("0 - MIN", Made.worked("0-a", MIN, 0), MIN);
        Due.answer("-1 - MAX", Made.worked("a-b", -1, MAX), MIN);
        Due.answer("MAX * 2", Made.worked("a*2", MAX, 0), -2);
        Due.answer("MAX * MAX", Made.worked("a*b", MAX, MAX), 1);
        Due.answer("MIN * -1", Made.worked("a*b", MIN, -1), MIN);
        Due.answer("65536 * 65536", Made.worked("a*a", 65536, 0), 0);
        Due.answer("9999 three times", Made.worked("9999*9999*9999", 0, 0), 9999 * 9999 * 9999);
        Due.answer("MIN / -1", Made.worked("a/b", MIN, -1), MIN);
        Due.answer("MIN / 1", Made.worked("a/1", MIN, 0), MIN);
        Due.answer("MAX / MIN", Made.worked("a/b", MAX, MIN), 0);
        Due.answer("MIN / MAX", Made.worked("a/b", MIN, MAX), -1);
        Due.answer("7 / 2", Made.worked("a/b", 7, 2), 3);
        Due.answer("-7 / 2", Made.worked("a/b", -7, 2), -3);
        Due.answer("7 / -2", Made.worked("a/b", 7, -2), -3);
        Due.answer("-7 / -2", Made.worked("a/b", -7, -2), 3);
        Due.answer("0 / 5", Made.worked("a/5", 0, 0), 0);
        Due.holds("a condition wraps too", Made.holds("a+1<a", MAX, 0));
        Due.holds("MIN / -1 in a condition", Made.holds("a/b=a", MIN, -1));
        String[] divisions = {"a/0", "0/0", "a/b", "a/0000", "a/c", "1+a/b*0"};
        for (String term : divisions) {
            Due.refuses(term + " in a setting", ArithmeticException.class, () -> Made.worked(term, 1, 0));
            Due.refuses(term + " on the left", ArithmeticException.class, () -> Made.holds(term + "=1", 1, 0));
            Due.refuses(term + " on the right", ArithmeticException.class, () -> Made.holds("1=" + term, 1, 0));
        }
        Due.refuses("MIN / 0", ArithmeticException.class, () -> Made.worked("a/b", MIN, 0));
    }

    private static void bothSides() {
        Due.sentence("Both sides of & and | are always worked out, the left first.");
        String[] conditions = {"a=1|1/b=1", "a=2&1/b=1", "1/b=1|a=1", "1/b=1&a=2", "!(a=1|1/b=1)", "(a=1|a=1)|1/b=1",
            "a=1|(a=1|1/b=1)", "a=2&(a=2&(a=2&1/b=1))", "!!!!!1/b=1"};
        for (String condition : conditions) {
            Due.refuses(condition, ArithmeticException.class, () -> Made.holds(condition, 1, 0));
        }
    }

    private static void notEqual() {
        Due.sentence("# is \"not equal\".");
        Due.holds("1#1", !Made.holds("1#1", 0, 0));
        Due.holds("1#2", Made.holds("1#2", 0, 0));
        Due.holds("2#1", Made.holds("2#1", 0, 0));
        Due.holds("MIN#MAX", Made.holds("a#b", MIN, MAX));
        Due.holds("MIN#MIN", !Made.holds("a#b", MIN, MIN));
    }

    private static void typeLengths() {
        Due.sentence("Puts a character at the end of THE LINE: its length.");
        VersionedTables x = new VersionedTables();
        Due.answer("the first", x.type('a'), 1);
        Due.answer("the second", x.type('='), 2);
        Due.answer("the third", x.type('1'), 3);
        x.where();
        Due.answer("the first of the next line", x.type('b'), 1);
        Due.refuses("refused", IllegalArgumentException.class, x::setting);
        for (int length = 1; length <= 40; length++) {
            Due.answer("of a full line", x.type(FULL.charAt(length - 1)), length);
        }
        x.where();
        Due.answer("taken in this order", x.errorAt(), -1);
        Due.answer("after a full line", x.type(0), 1);
    }

    private static void typeOutOfRange() {
        Due.sentence("IllegalArgumentException: out of 0 .. 127.");
        VersionedTables x = new VersionedTables();
        int[] none = {MIN, -128, -1, 128, 255, 256, 'a' + 256, 'a' + 65536, MAX};
        for (int c : none) {
            Due.refuses("type(" + c + ")", IllegalArgumentException.class, () -> x.type(c));
        }
        Due.answer("nothing was typed", x.count(4), 0);
        Due.answer("type(0)", x.type(0), 1);
        Due.answer("type(127)", x.type(127), 2);
        for (int c = 0; c < 128; c++) {
            VersionedTables y = new VersionedTables();
            Due.answer("type(" + c + ")", y.type(c), 1);
        }
    }

    private static void typeFull() {
        Due.sentence("IllegalStateException: 40 there.");
        VersionedTables x = Made.rows(2, 1, 2);
        Due.type(x, FULL.substring(0, 39));
        Due.answer("the 40th", x.type(FULL.charAt(39)), 40);
        Due.refuses("the 41st", IllegalStateException.class, () -> x.type('1'));
        Due.refuses("the 41st again", IllegalStateException.class, () -> x.type('x'));
        Due.answer("40 there", x.count(4), 40);
        x.where();
        Due.answer("the 40 are the condition", x.select(2, 0), 2);
        Due.answer("there is room again", x.type('1'), 1);
    }

    private static void whereTakes() {
        Due.sentence("THE LINE, which is empty then, becomes the CONDITION of all STATEMENTS from now on.");
        VersionedTables x = Made.rows(3, 1, 2, 3);
        x.create(1, 1);
        x.insert(2, 1, 1, 0, 0, 0);
        x.insert(2, 1, 2, 0, 0, 0);
        Due.where(x, "a>1");
        Due.answer("the line is empty", x.count(4), 0);
        Due.answer("select", x.select(2, 0), 2);
        Due.answer("select of another table", x.select(2, 1), 1);
        Due.answer("update", x.update(2, 0), 2);
        Due.answer("delete", x.delete(2, 0), 2);
        Due.type(x, "a<1");
        Due.answer("a line that is only typed is none", x.select(2, 1), 1);
        x.where();
        Due.answer("the next condition", x.select(2, 1), 0);
        Due.answer("a full line", FULL.length(), 40);
        Due.where(x, FULL);
        Due.answer("a full line is a condition", x.select(2, 0), 1);
    }

    private static void whereRefuses() {
        Due.sentence("IllegalArgumentException: it is none (errorAt is set, THE LINE is empty, the CONDITION stays).");
        VersionedTables x = Made.rows(2, 1, 2, 3);
        Due.where(x, "a>1");
        String[] refused = {"a", "a>0&", "a>0)", "(a>0", "x", FULL.substring(0, 39) + "x", "a=1|".repeat(10)};
        for (String text : refused) {
            Due.type(x, text);
            Due.refuses(text, IllegalArgumentException.class, x::where);
            Due.holds("errorAt is set", x.errorAt() >= 0);
            Due.answer("the line is empty", x.count(4), 0);
            Due.answer("the condition stays", x.select(2, 0), 2);
        }
        VersionedTables y = Made.rows(2, 1, 2, 3);
        Due.type(y, "a>9&");
        Due.refuses("the first line", IllegalArgumentException.class, y::where);
        Due.answer("the empty condition stays", y.select(2, 0), 3);
    }

    private static void settingTakes() {
        Due.sentence("THE LINE, which is empty then, is a SETTING: it is the one of its COLUMN from now on: how many"
            + " there are.");
        VersionedTables x = Made.table(4, 1);
        x.insert(1, 0, 1, 2, 3, 4);
        Due.answer("of d", Due.setting(x, "d=1"), 1);
        Due.answer("the line is empty", x.count(4), 0);
        Due.answer("of d again", Due.setting(x, "d=a"), 1);
        Due.answer("of a", Due.setting(x, "a=d"), 2);
        Due.answer("of c", Due.setting(x, "c=b"), 3);
        Due.answer("of b", Due.setting(x, "b=c"), 4);
        Due.answer("of b again", Due.setting(x, "b=c+1"), 4);
        Due.answer("all four at once", x.update(1, 0), 1);
        x.select(1, 0);
        Due.answer("a", x.result(0, 0), 4);
        Due.answer("b", x.result(0, 1), 4);
        Due.answer("c", x.result(0, 2), 2);
        Due.answer("d", x.result(0, 3), 1);
        Due.answer("a full line", FULL_SETTING.length(), 40);
        Due.answer("a full line is a setting", Due.setting(x, FULL_SETTING), 4);
        x.update(1, 0);
        x.select(1, 0);
        Due.answer("a full line", x.result(0, 0), (((4 + 4) * 2 - 1) / 7 + 8888) * 4 + 123);
    }

    private static void settingRefuses() {
        Due.sentence("IllegalArgumentException as above.");
        VersionedTables x = Made.rows(2, 1, 2, 3);
        Due.where(x, "a>1");
        Due.setting(x, "a=9");
        String[] refused = {"", "a", "a=8=", "b=", "b=1&a=1", "a=8+", "b+1", "a=8888" + "+a".repeat(16) + "+x"};
        for (String text : refused) {
            Due.type(x, text);
            Due.refuses(text, IllegalArgumentException.class, x::setting);
            Due.holds("errorAt is set", x.errorAt() >= 0);
            Due.answer("the line is empty", x.count(4), 0);
            Due.answer("the settings stay", x.count(5), 1);
            Due.answer("the condition stays", x.select(2, 0), 2);
        }
        Due.answer("update", x.update(2, 0), 2);
        x.select(2, 0);
        Due.answer("the setting stays", x.result(0, 0), 9);
        Due.answer("b stays", x.result(0, 1), 20);
    }

    private static void clearCounts() {
        Due.sentence("No SETTINGS: how many there were.");
        for (int many = 0; many <= 4; many++) {
            VersionedTables x = Made.table(4, 1);
            x.insert(1, 0, 5, 6, 7, 8);
            for (int column = 0; column < many; column++) {
                Due.setting(x, "dcba".charAt(column) + "=1");
            }
            Due.answer("settings", x.count(5), many);
            Due.answer("clear", x.clear(), many);
            Due.answer("clear again", x.clear(), 0);
            Due.answer("no settings", x.count(5), 0);
            x.update(1, 0);
            x.select(1, 0);
            for (int column = 0; column < 4; column++) {
                Due.answer("no value was set", x.result(0, column), 5 + column);
            }
            Due.answer("the first again", Due.setting(x, "a=1"), 1);
        }
        VersionedTables y = Made.table(1, 1);
        Due.setting(y, "d=1");
        y.clear();
        Due.answer("no setting of d any more", y.update(1, 0), 0);
    }

    private static void errorAtTells() {
        Due.sentence("The least k such that no CONDITION (SETTING) of any length begins with the characters 0 .. k of"
            + " THE LINE that was refused last; its length if there is none; -1 if where or setting took it the last"
            + " time, or before.");
        Due.answer("before", new VersionedTables().errorAt(), -1);
        conditionErrs("x", 0);
        conditionErrs("a", 1);
        conditionErrs("xxxxx", 0);
        conditionErrs(FULL.substring(0, 39) + "x", 39);
        conditionErrs(FULL.substring(0, 38) + "0&", 40);
        conditionErrs("a+".repeat(20), 40);
        conditionErrs("a*".repeat(19) + "a!", 39);
        conditionErrs("a=b&".repeat(10), 40);
        conditionErrs("(a=b)&".repeat(6) + "((((", 40);
        conditionErrs("(((((" + "a=b|".repeat(8) + "a=b", 40);
        settingErrs("", 0);
        settingErrs("a=" + "a+".repeat(19), 40);
        settingErrs("a=" + "a+".repeat(18) + "a=", 39);
        lastLineCounts();
    }

    private static void lastLineCounts() {
        VersionedTables x = new VersionedTables();
        Due.type(x, "a=1=");
        Due.refuses("a=1=", IllegalArgumentException.class, x::where);
        Due.answer("a condition refused", x.errorAt(), 3);
        Due.type(x, "ab");
        Due.answer("typing leaves it", x.errorAt(), 3);
        Due.refuses("ab", IllegalArgumentException.class, x::setting);
        Due.answer("then a setting refused", x.errorAt(), 1);
        Due.refuses("the empty setting", IllegalArgumentException.class, x::setting);
        Due.answer("then the empty one", x.errorAt(), 0);
        Due.answer("the empty one again", x.errorAt(), 0);
        x.where();
        Due.answer("the empty condition taken", x.errorAt(), -1);
        Due.type(x, "a");
        Due.refuses("a", IllegalArgumentException.class, x::where);
        Due.answer("refused again", x.errorAt(), 1);
        Due.setting(x, "a=1");
        Due.answer("a setting taken", x.errorAt(), -1);
        Due.type(x, "a=1&");
        Due.refuses("a=1&", IllegalArgumentException.class, x::where);
        x.clear();
        x.begin();
        Due.refuses("type(128)", IllegalArgumentException.class, () -> x.type(128));
        Due.answer("other calls leave it", x.errorAt(), 4);
    }

    private static void conditionErrs(String text, int at) {
        VersionedTables x = new VersionedTables();
        Due.type(x, text);
        Due.refuses("where " + text, IllegalArgumentException.class, x::where);
        Due.answer("errorAt of " + text, x.errorAt(), at);
    }

    private static void settingErrs(String text, int at) {
        VersionedTables x = new VersionedTables();
        Due.type(x, text);
        Due.refuses("setting " + text, IllegalArgumentException.class, x::setting);
        Due.answer("errorAt of the setting " + text, x.errorAt(), at);
    }
}
