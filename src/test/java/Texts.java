import java.util.Random;

/** Makes conditions and settings, and spoils some of them. */
final class Texts {
    private static final int LINE = 40;

    private final Random random;

    Texts(Random random) {
        this.random = random;
    }

    String condition() {
        return fitting(all(0));
    }

    String setting() {
        return fitting(pick("aaaaabbcd") + "=" + term());
    }

    String spoiled(String text) {
        StringBuilder spoiled = new StringBuilder(text);
        int at = random.nextInt(text.length() + 1);
        switch (random.nextInt(3)) {
            case 0:
                spoiled.insert(at, pick("abcde0123456789=#<>+-*/&|!()  "));
                break;
            case 1:
                spoiled.setLength(at);
                break;
            default:
                if (at < text.length()) {
                    spoiled.deleteCharAt(at);
                }
        }
        return fitting(spoiled.toString());
    }

    private String all(int depth) {
        StringBuilder text = new StringBuilder(part(depth));
        while (random.nextInt(3) == 0) {
            text.append(pick("&|")).append(part(depth));
        }
        return text.toString();
    }

    private String part(int depth) {
        int kind = random.nextInt(6);
        if (kind == 0 && depth < 6) {
            return "!" + part(depth + 1);
        }
        if (kind == 1 && depth < 6) {
            return "(" + all(depth + 1) + ")";
        }
        return term() + pick("=#<>") + term();
    }

    private String term() {
        StringBuilder text = new StringBuilder(item());
        while (random.nextInt(3) == 0) {
            text.append(pick("++--*/")).append(item());
        }
        return text.toString();
    }

    private String item() {
        if (random.nextInt(3) > 0) {
            return pick("aaabbcd");
        }
        return random.nextInt(8) > 0 ? pick("0123456789") : String.valueOf(random.nextInt(12000));
    }

    private String pick(String characters) {
        return String.valueOf(characters.charAt(random.nextInt(characters.length())));
    }

    private static String fitting(String text) {
        return text.length() <= LINE ? text : text.substring(0, LINE);
    }
}
