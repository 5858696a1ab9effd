/** Promises 3 to 7: type, where, setting, clear, errorAt. */
public final class LineTest {
    public static void main(String[] args) {
        typeAnswersTheLength();
        typeRefuses();
        whereTakesTheLine();
        whereRefusedKeepsTheCondition();
        settingTakesTheLine();
        settingRefusedKeepsTheSettings();
        clearTakesAllSettings();
        errorAtIsOfTheLastLine();
        errorsOfConditions();
        errorsOfSettings();
        conditionsAreTaken();
        settingsAreTaken();
        Due.finish();
    }

    private static void typeAnswersTheLength() {
        VersionedTables x = new VersionedTables();
        for (int length = 1; length <= 40; length++) {
            Due.answer("type", x.type(length == 1 ? 0 : 127), length);
            Due.answer("count(4)", x.count(4), length);
        }
    }

    private static void typeRefuses() {
        VersionedTables x = new VersionedTables();
        Due.refuses("type(-1)", IllegalArgumentException.class, () -> x.type(-1));
        Due.refuses("type(128)", IllegalArgumentException.class, () -> x.type(128));
        Due.refuses("type(256 + 'a')", IllegalArgumentException.class, () -> x.type(256 + 'a'));
        Due.answer("nothing was typed", x.count(4), 0);
        Due.type(x, "a".repeat(40));
        Due.refuses("41 characters", IllegalStateException.class, () -> x.type('a'));
        Due.refuses("promise 20: out of range first", IllegalArgumentException.class, () -> x.type(-1));
        Due.refuses("promise 20: out of range first", IllegalArgumentException.class, () -> x.type(128));
        Due.answer("40 stay", x.count(4), 40);
    }

    private static VersionedTables numbersOneToFour() {
        VersionedTables x = new VersionedTables();
        x.create(0, 2);
        x.begin();
        for (int a = 1; a <= 4; a++) {
            x.insert(1, 0, a, 10 * a, 0, 0);
        }
        return x;
    }

    private static void whereTakesTheLine() {
        VersionedTables x = numbersOneToFour();
        Due.where(x, "a>1");
        Due.answer("the line is empty", x.count(4), 0);
        Due.answer("errorAt", x.errorAt(), -1);
        Due.answer("a>1", x.select(1, 0), 3);
        Due.answer("a>1 again", x.select(1, 0), 3);
        x.where();
        Due.answer("the empty condition", x.select(1, 0), 4);
        String full = "a=1|" + "(b=20)|".repeat(4) + "a+b>0043";
        Due.answer("a full line", full.length(), 40);
        Due.where(x, full);
        Due.answer("a full line", x.select(1, 0), 3);
    }

    private static void whereRefusedKeepsTheCondition() {
        VersionedTables x = numbersOneToFour();
        Due.where(x, "a>1");
        Due.type(x, "a>3&");
        Due.refuses("a>3&", IllegalArgumentException.class, x::where);
        Due.answer("errorAt is set", x.errorAt(), 4);
        Due.answer("the line is empty", x.count(4), 0);
        Due.answer("the condition stays", x.select(1, 0), 3);
        Due.answer("type begins anew", x.type('a'), 1);
    }

    private static void settingTakesTheLine() {
        VersionedTables x = numbersOneToFour();
        Due.answer("the first setting", Due.setting(x, "b=a*7"), 1);
        Due.answer("the line is empty", x.count(4), 0);
        Due.answer("another column", Due.setting(x, "a=b"), 2);
        Due.answer("the same column", Due.setting(x, "b=a+1"), 2);
        Due.answer("count(5)", x.count(5), 2);
        Due.answer("all rows", x.update(1, 0), 4);
        x.select(1, 0);
        Due.answer("a=b of the old values", x.result(3, 0), 40);
        Due.answer("b=a+1 of the old values", x.result(3, 1), 5);
        Due.answer("column c", Due.setting(x, "c=1"), 3);
        Due.answer("column d", Due.setting(x, "d=1"), 4);
    }

    private static void settingRefusedKeepsTheSettings() {
        VersionedTables x = numbersOneToFour();
        Due.setting(x, "a=9");
        Due.type(x, "a=8=");
        Due.refuses("a=8=", IllegalArgumentException.class, x::setting);
        Due.answer("errorAt is set", x.errorAt(), 3);
        Due.answer("the line is empty", x.count(4), 0);
        Due.answer("the setting stays", x.count(5), 1);
        x.update(1, 0);
        x.select(1, 0);
        Due.answer("the setting stays", x.result(0, 0), 9);
    }

    private static void clearTakesAllSettings() {
        VersionedTables x = numbersOneToFour();
        Due.setting(x, "a=9");
        Due.setting(x, "d=9");
        Due.type(x, "a");
        Due.answer("clear", x.clear(), 2);
        Due.answer("no settings", x.count(5), 0);
        Due.answer("clear again", x.clear(), 0);
        Due.answer("the line stays", x.count(4), 1);
        Due.answer("update without settings", x.update(1, 0), 4);
        x.select(1, 0);
        Due.answer("the values stay", x.result(2, 0), 3);
    }

    private static void errorAtIsOfTheLastLine() {
        VersionedTables x = new VersionedTables();
        Due.answer("before", x.errorAt(), -1);
        Due.type(x, "a=x");
        Due.refuses("a=x", IllegalArgumentException.class, x::where);
        Due.answer("refused", x.errorAt(), 2);
        Due.type(x, "b=1");
        Due.answer("typing leaves it", x.errorAt(), 2);
        x.setting();
        Due.answer("setting took one", x.errorAt(), -1);
        Due.refuses("an empty setting", IllegalArgumentException.class, x::setting);
        Due.answer("an empty setting", x.errorAt(), 0);
        x.where();
        Due.answer("where took one", x.errorAt(), -1);
    }

    private static void errorsOfConditions() {
        conditionErrs("x=1", 0);
        conditionErrs(" a=1", 0);
        conditionErrs("e=1", 0);
        conditionErrs("A=1", 0);
        conditionErrs("=1", 0);
        conditionErrs(")", 0);
        conditionErrs("()", 1);
        conditionErrs("a", 1);
        conditionErrs("ab", 1);
        conditionErrs("a1=1", 1);
        conditionErrs("1a=1", 1);
        conditionErrs("a&b", 1);
        conditionErrs("(a)=1", 2);
        conditionErrs("a=", 2);
        conditionErrs("a==1", 2);
        conditionErrs("a=-1", 2);
        conditionErrs("a=(1)", 2);
        conditionErrs("a=!1", 2);
        conditionErrs("a+=1", 2);
        conditionErrs("a=1)", 3);
        conditionErrs("a=1=1", 3);
        conditionErrs("a=1!b=1", 3);
        conditionErrs("a=1 ", 3);
        conditionErrs("(a=1", 4);
        conditionErrs("a=1+", 4);
        conditionErrs("a=1&", 4);
        conditionErrs("a=1&&b=1", 4);
        conditionErrs("12345=1", 4);
        conditionErrs("a=00001", 6);
        conditionErrs("(a=1)+1=2", 5);
        conditionErrs("(a=1)(b=1)", 5);
        conditionErrs("(a=1))", 5);
        conditionErrs("!", 1);
        conditionErrs("!!!!!!a=1", 5);
        conditionErrs("((((((a=1", 5);
        conditionErrs("!(!(!(a=1", 5);
        conditionErrs("!!!!!(a=1", 5);
        conditionErrs("(((((!a=1", 5);
        conditionErrs("(((((a=1&!", 9);
        conditionErrs("!!!!!a=1|!!!!!!", 14);
        conditionErrs("(((((a=1)&((", 11);
        conditionErrs("a".repeat(40), 1);
        conditionErrs("a=1|b=1".repeat(5) + "a+a+a", 7);
        conditionErrs("a+".repeat(20), 40);
    }

    private static void conditionErrs(String text, int at) {
        VersionedTables x = new VersionedTables();
        Due.type(x, text);
        Due.refuses("where " + text, IllegalArgumentException.class, x::where);
        Due.answer("errorAt of " + text, x.errorAt(), at);
    }

    private static void errorsOfSettings() {
        settingErrs("", 0);
        settingErrs("e=1", 0);
        settingErrs("1=a", 0);
        settingErrs("(a=1)", 0);
        settingErrs("!a=1", 0);
        settingErrs("a", 1);
        settingErrs("a#1", 1);
        settingErrs("a+b=1", 1);
        settingErrs("a=", 2);
        settingErrs("a==", 2);
        settingErrs("a=(1)", 2);
        settingErrs("a=-1", 2);
        settingErrs("a=b=c", 3);
        settingErrs("a=b&c=1", 3);
        settingErrs("a=b)", 3);
        settingErrs("a=b+", 4);
        settingErrs("a=12345", 6);
        settingErrs("a=b+c d", 5);
    }

    private static void settingErrs(String text, int at) {
        VersionedTables x = new VersionedTables();
        Due.type(x, text);
        Due.refuses("setting " + text, IllegalArgumentException.class, x::setting);
        Due.answer("errorAt of the setting " + text, x.errorAt(), at);
        Due.answer("no setting", x.count(5), 0);
    }

    private static void conditionsAreTaken() {
        conditionHolds("", true);
        conditionHolds("a=3", true);
        conditionHolds("a=4", false);
        conditionHolds("a#3", false);
        conditionHolds("a#4", true);
        conditionHolds("a<4", true);
        conditionHolds("a<3", false);
        conditionHolds("a>2", true);
        conditionHolds("a>3", false);
        conditionHolds("c=0&d=0", true);
        conditionHolds("b+a*2=26", true);
        conditionHolds("b-1-1=8", true);
        conditionHolds("b/3*3=9", true);
        conditionHolds("0-b/3+3=0", true);
        conditionHolds("9999=9999", true);
        conditionHolds("0010=b", true);
        conditionHolds("a=3|b=0&c=1", false);
        conditionHolds("a=3|(b=0&c=1)", true);
        conditionHolds("b=0&c=1|a=3", true);
        conditionHolds("!a=3|b=10", true);
        conditionHolds("!(a=3|b=10)", false);
        conditionHolds("!!a=3", true);
        conditionHolds("!a=3&b=10", false);
        conditionHolds("!a=4&b=10", true);
        conditionHolds("!!!!!a=4", true);
        conditionHolds("(((((a=3)))))", true);
        conditionHolds("!(!(!a=3))", false);
        conditionHolds("!!!!!a=4&!!!!!a=4", true);
        conditionHolds("((((a=3))))&(((((b=10)))))", true);
        conditionHolds("9999*9999*9999<0", true);
        conditionHolds("a=3&a=3&a=3&a=3&a=3&a=3&a=3&a=3&a=3&b=10", true);
    }

    private static void conditionHolds(String text, boolean holds) {
        VersionedTables x = new VersionedTables();
        x.create(0, 2);
        x.begin();
        x.insert(1, 0, 3, 10, 77, 77);
        Due.where(x, text);
        Due.answer("a = 3, b = 10: " + text, x.select(1, 0), holds ? 1 : 0);
    }

    private static void settingsAreTaken() {
        settingAnswers("b=a", 3);
        settingAnswers("b=b+1", 11);
        settingAnswers("b=b-a*2", 14);
        settingAnswers("b=c+d", 0);
        settingAnswers("b=0-b/3", -3);
        settingAnswers("b=0-7/2", -3);
        settingAnswers("b=0-1-1", -2);
        settingAnswers("b=9999*9999*9999", 9999 * 9999 * 9999);
        settingAnswers("b=8192*8192*32/1", Integer.MIN_VALUE);
        settingAnswers("b=8192*8192*32-1", Integer.MAX_VALUE);
        settingAnswers("b=8192*8192*32/a*a", -2147483646);
        settingAnswers("b=a+a+a+a+a+a+a+a+a+a+a+a+a+a+a+a+a+a+10", 64);
    }

    private static void settingAnswers(String text, int due) {
        VersionedTables x = new VersionedTables();
        x.create(0, 2);
        x.begin();
        x.insert(1, 0, 3, 10, 77, 77);
        Due.answer("setting " + text, Due.setting(x, text), 1);
        Due.answer("update with " + text, x.update(1, 0), 1);
        x.select(1, 0);
        Due.answer("a stays after " + text, x.result(0, 0), 3);
        Due.answer("a = 3, b = 10: " + text, x.result(0, 1), due);
    }
}
