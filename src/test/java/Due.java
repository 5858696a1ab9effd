/** Counts the answers that are as due and tells those that are not. */
final class Due {
    interface Call {
        void run();
    }

    private static int passed = 0;
    private static int failed = 0;
    private static String sentence = "";

    private Due() {
    }

    /** The words of the document that the answers from now on are due by. */
    static void sentence(String words) {
        sentence = words;
    }

    static void answer(String what, long got, long want) {
        note(got == want, what, String.valueOf(got), String.valueOf(want));
    }

    static void answer(String what, double got, double want) {
        note(got == want, what, String.valueOf(got), String.valueOf(want));
    }

    static void holds(String what, boolean got) {
        note(got, what, "false", "true");
    }

    static void same(String what, String got, String want) {
        note(got.equals(want), what, got, want);
    }

    static void refuses(String what, Class<? extends RuntimeException> kind, Call call) {
        String got = thrownBy(call);
        note(got.equals(kind.getSimpleName()), what, got, kind.getSimpleName());
    }

    static String thrownBy(Call call) {
        try {
            call.run();
            return "nothing thrown";
        } catch (RuntimeException e) {
            return e.getClass().getSimpleName();
        }
    }

    static void type(VersionedTables x, String text) {
        for (int i = 0; i < text.length(); i++) {
            x.type(text.charAt(i));
        }
    }

    static void where(VersionedTables x, String text) {
        type(x, text);
        x.where();
    }

    static int setting(VersionedTables x, String text) {
        type(x, text);
        return x.setting();
    }

    /** The program ends with exit code 1 if one answer was not as due. */
    static void finish() {
        System.out.println(passed + " passed, " + failed + " failed");
        if (failed != 0) {
            System.exit(1);
        }
    }

    private static void note(boolean fine, String what, String got, String want) {
        if (fine) {
            passed++;
            return;
        }
        failed++;
        System.out.println(what + " answered " + got + ", due is " + want);
        if (!sentence.isEmpty()) {
            System.out.println("    by: " + sentence);
        }
    }
}
