import java.util.Map;
import java.util.Random;
import java.util.TreeMap;
import java.util.function.Supplier;

/** All promises together: long runs of calls, each answered by the program as by the model. */
public final class RandomRunsTest {
    private static final int RUNS = 4000;
    private static final int CALLS = 512;

    private final Random random;
    private final Texts texts;
    private final VersionedTables program = new VersionedTables();
    private final Model model = new Model();
    private final int lively;
    private final String name;
    private int calls = 0;
    private static final Map<String, Integer> ANSWERS = new TreeMap<>();

    private RandomRunsTest(int seed) {
        random = new Random(seed);
        texts = new Texts(random);
        lively = 1 + random.nextInt(11);
        name = "run " + seed;
    }

    public static void main(String[] args) {
        for (int seed = 1; seed <= RUNS; seed++) {
            new RandomRunsTest(seed).run();
        }
        everyKindOfAnswerWasSeen();
        Due.finish();
    }

    /** A run that never reaches a refusal would test nothing of it. */
    private static void everyKindOfAnswerWasSeen() {
        String[] due = {
            "create IllegalArgumentException", "create IllegalStateException", "type IllegalArgumentException",
            "where IllegalArgumentException", "setting IllegalArgumentException", "begin IllegalStateException",
            "commit NoSuchElementException", "abort NoSuchElementException", "insert NoSuchElementException",
            "insert IllegalStateException", "insert UnsupportedOperationException",
            "select NoSuchElementException", "select IllegalStateException", "select ArithmeticException",
            "update NoSuchElementException", "update IllegalArgumentException", "update IllegalStateException",
            "update ArithmeticException", "update UnsupportedOperationException",
            "delete NoSuchElementException", "delete IllegalStateException", "delete ArithmeticException",
            "delete UnsupportedOperationException", "result NoSuchElementException",
            "result IndexOutOfBoundsException", "mean IndexOutOfBoundsException", "mean ArithmeticException",
            "versions NoSuchElementException", "update answer", "delete answer", "vacuum answer", "mean answer",
        };
        for (String answer : due) {
            Due.holds("some run has seen: " + answer, ANSWERS.getOrDefault(answer, 0) >= 50);
        }
    }

    private void run() {
        if (random.nextInt(20) > 0) {
            create(random.nextInt(3), 1 + random.nextInt(4));
            compare("begin", program::begin, model::begin);
        }
        while (calls < CALLS - 60) {
            step();
        }
        compareCounts();
    }

    private void step() {
        int kind = random.nextInt(100);
        if (kind < 3) {
            create(random.nextInt(5) - 1, random.nextInt(7) - 1);
        } else if (kind < 9) {
            typed(text(texts.condition()));
            compare("where", run(program::where), run(model::where));
        } else if (kind < 13) {
            typed(text(texts.setting()));
            compare("setting", program::setting, model::setting);
        } else if (kind < 16) {
            compare("clear", program::clear, model::clear);
            compare("errorAt", program::errorAt, model::errorAt);
        } else if (kind < 18 + lively) {
            compare("begin", program::begin, model::begin);
        } else if (kind < 36) {
            end(kind % 4 == 0);
        } else if (kind < 84) {
            statement(kind);
        } else {
            look(kind);
        }
    }

    private String text(String good) {
        int kind = random.nextInt(8);
        return kind < 3 ? "" : kind < 5 ? texts.spoiled(good) : good;
    }

    private void create(int k, int columns) {
        compare("create", run(() -> program.create(k, columns)), run(() -> model.create(k, columns)));
    }

    private void typed(String text) {
        for (int i = 0; i < text.length(); i++) {
            int c = text.charAt(i);
            compare("type", () -> program.type(c), () -> model.type(c));
        }
        if (random.nextInt(20) == 0) {
            int c = random.nextBoolean() ? -1 - random.nextInt(3) : 126 + random.nextInt(5);
            compare("type", () -> program.type(c), () -> model.type(c));
        }
    }

    private void end(boolean broken) {
        int t = transaction();
        if (broken) {
            compare("abort", () -> program.abort(t), () -> model.abort(t));
        } else {
            compare("commit", run(() -> program.commit(t)), run(() -> model.commit(t)));
        }
    }

    private void statement(int kind) {
        int t = transaction();
        int k = table();
        if (kind < 46) {
            int a = value();
            int b = value();
            int c = value();
            int d = value();
            compare("insert", () -> program.insert(t, k, a, b, c, d), () -> model.insert(t, k, a, b, c, d));
        } else if (kind < 60) {
            compare("select", () -> program.select(t, k), () -> model.select(t, k));
        } else if (kind < 76) {
            compare("update", () -> program.update(t, k), () -> model.update(t, k));
        } else {
            compare("delete", () -> program.delete(t, k), () -> model.delete(t, k));
        }
    }

    private void look(int kind) {
        int i = random.nextInt(model.count(3) + 2) - 1;
        int column = random.nextInt(7) - 2;
        int k = table();
        int row = random.nextInt(9) - 1;
        int what = random.nextInt(14) - 1;
        if (kind < 88) {
            compare("result", () -> program.result(i, column), () -> model.result(i, column));
        } else if (kind < 91) {
            compare("mean", () -> program.mean(column), () -> model.mean(column));
        } else if (kind < 93) {
            compare("vacuum", program::vacuum, model::vacuum);
        } else if (kind < 96) {
            compare("versions", () -> program.versions(k, row), () -> model.versions(k, row));
        } else {
            compare("count", () -> program.count(what), () -> model.count(what));
        }
    }

    private void compareCounts() {
        for (int what = 0; what <= 10; what++) {
            int one = what;
            compare("count", () -> program.count(one), () -> model.count(one));
        }
    }

    /** Mostly an open one, since the others only refuse. */
    private int transaction() {
        int begun = model.count(0);
        int t = random.nextInt(begun + 3) - 1;
        for (int i = 0; i < 12 && !model.isOpen(t); i++) {
            t = random.nextInt(begun + 3) - 1;
        }
        return t;
    }

    private int table() {
        int k = random.nextInt(3);
        for (int i = 0; i < 3 && model.count(8 + k) == 0; i++) {
            k = (k + 1) % 3;
        }
        return random.nextInt(25) == 0 ? random.nextInt(5) - 1 : k;
    }

    private int value() {
        int kind = random.nextInt(10);
        return kind == 0 ? random.nextInt() : kind == 1 ? Integer.MIN_VALUE : random.nextInt(12) - 1;
    }

    private static Supplier<Object> run(Runnable call) {
        return () -> {
            call.run();
            return "nothing";
        };
    }

    private void compare(String call, Supplier<Object> ofProgram, Supplier<Object> ofModel) {
        calls++;
        String got = answer(ofProgram);
        String want = answer(ofModel);
        Due.holds(name + ", call " + calls + ": " + call + " answered " + got + " as due: " + want, got.equals(want));
        ANSWERS.merge(call + " " + (want.endsWith("Exception") ? want : "answer"), 1, Integer::sum);
    }

    private static String answer(Supplier<Object> call) {
        try {
            return String.valueOf(call.get());
        } catch (RuntimeException e) {
            return e.getClass().getSimpleName();
        }
    }
}
