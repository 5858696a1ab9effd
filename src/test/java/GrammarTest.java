import java.util.Random;

/** Promises 4, 5 and 7: what is taken and where the rest is refused, for all short texts and many long ones. */
public final class GrammarTest {
    private static final String CHARACTERS = "a7=&!()+e";
    private static final int SHORT = 5;
    private static final int LONG_TEXTS = 20000;

    public static void main(String[] args) {
        bothOfAllShortTexts("");
        longTexts();
        manyBrackets();
        Due.finish();
    }

    private static void bothOfAllShortTexts(String text) {
        conditionIsAsDue(text);
        settingIsAsDue(text);
        if (text.length() < SHORT) {
            for (int i = 0; i < CHARACTERS.length(); i++) {
                bothOfAllShortTexts(text + CHARACTERS.charAt(i));
            }
        }
    }

    private static void longTexts() {
        Random random = new Random(7);
        Texts texts = new Texts(random);
        for (int i = 0; i < LONG_TEXTS; i++) {
            String condition = texts.condition();
            conditionIsAsDue(condition);
            conditionIsAsDue(texts.spoiled(condition));
            String setting = texts.setting();
            settingIsAsDue(setting);
            settingIsAsDue(texts.spoiled(setting));
        }
    }

    private static void manyBrackets() {
        Random random = new Random(8);
        for (int i = 0; i < LONG_TEXTS; i++) {
            StringBuilder text = new StringBuilder();
            while (text.length() < 30) {
                text.append(random.nextInt(3) > 0 ? "(!".charAt(random.nextInt(2)) + "" : "a=a");
                if (text.charAt(text.length() - 1) == 'a') {
                    text.append(")".repeat(random.nextInt(5))).append("&|".charAt(random.nextInt(2)));
                }
            }
            conditionIsAsDue(text.toString());
        }
    }

    private static void conditionIsAsDue(String text) {
        VersionedTables x = new VersionedTables();
        Due.type(x, text);
        isAsDue("condition " + text, x, Due.thrownBy(x::where), Grammar.conditionErrorAt(text));
    }

    private static void settingIsAsDue(String text) {
        VersionedTables x = new VersionedTables();
        Due.type(x, text);
        isAsDue("setting " + text, x, Due.thrownBy(x::setting), Grammar.settingErrorAt(text));
    }

    private static void isAsDue(String what, VersionedTables x, String thrown, int errorAt) {
        Due.holds(what + " taken or refused", thrown.equals("IllegalArgumentException") == (errorAt >= 0));
        Due.answer(what + ": errorAt", x.errorAt(), errorAt);
        Due.answer(what + ": the line is empty", x.count(4), 0);
    }
}
