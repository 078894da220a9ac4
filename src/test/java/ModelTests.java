import java.util.NoSuchElementException;
import java.util.Random;

/** Runs of calls drawn by a fixed seed: GrownWords must answer each as Model does, and throw as it does. */
public final class ModelTests {
    private static final String[] LETTERS = {"ab", "abc", "abcdefgh", "smokefg"};
    private static final String[] VALUES = {"strap", "heat", "grown", "said", "meant", "overlap", "day"};
    private static final String[] STRAYS = {
        ";", "(", ")", "+", "-", "*", "/", "<", "=", "word", "trunk", "treaty", "heat", "grows", "not", "or", "and",
        "0", "9", "10", "12345", "a", "abcdefghi", "#", "A", "\t", "\u00ff", "day", "not not not", "((("
    };

    private final Random random;
    private GrownWords real = new GrownWords();
    private Model model = new Model();
    private final StringBuilder log = new StringBuilder();

    private ModelTests(long seed) {
        random = new Random(seed);
    }

    public static void main(String[] args) {
        int runs = args.length > 0 ? Integer.parseInt(args[0]) : 1500;
        int passed = 0;
        for (int run = 1; run <= runs; run++) {
            ModelTests test = new ModelTests(run);
            if (!test.runs()) {
                System.out.println("run " + run + ":\n" + test.log);
                System.out.println(passed + " passed, 1 failed");
                System.exit(1);
            }
            passed++;
        }
        System.out.println(passed + " passed, 0 failed");
    }

    private boolean runs() {
        int calls = 0;
        while (calls < 400) {
            if (calls == 0 || random.nextInt(100) == 0) {
                String text = text();
                int padded = (text.length() + 19) / 20 * 20;
                StringBuilder bytes = new StringBuilder(text);
                while (bytes.length() < padded) {
                    bytes.append(random.nextBoolean() ? ' ' : ';');
                }
                log.append(text).append('\n');
                for (int i = 0; i < padded; i += 20) {
                    if (!same(0, four(bytes, i), four(bytes, i + 4), four(bytes, i + 8), four(bytes, i + 12),
                        four(bytes, i + 16))) {
                        return false;
                    }
                    calls++;
                }
                if (random.nextInt(6) > 0 && !same(1, text.length(), 0, 0, 0, 0)) {
                    return false;
                }
                if (!same(2, 0, 0, 0, 0, 0)) {
                    return false;
                }
            }
            if (!call()) {
                return false;
            }
            calls++;
        }
        return true;
    }

    private static int four(CharSequence s, int i) {
        return s.charAt(i) << 24 | s.charAt(i + 1) << 16 | s.charAt(i + 2) << 8 | s.charAt(i + 3);
    }

    // ---- texts

    private String text() {
        StringBuilder s = new StringBuilder();
        int words = random.nextInt(8) == 0 ? random.nextInt(10) : 1 + random.nextInt(random.nextInt(4) == 0 ? 8 : 5);
        String letters = LETTERS[random.nextInt(LETTERS.length)];
        for (int w = 0; w < words; w++) {
            s.append("word ");
            int size = 1 + random.nextInt(8);
            for (int i = 0; i < size; i++) {
                s.append(letters.charAt(random.nextInt(letters.length())));
            }
            s.append(' ').append(random.nextInt(10)).append(";\n");
        }
        boolean grows = random.nextInt(2) == 0;
        if (grows && random.nextBoolean()) {
            s.append("grows ").append(or(random.nextInt(4))).append(';');
            grows = false;
        }
        int trunks = words == 0 ? 0 : random.nextInt(random.nextInt(20) == 0 ? 8 : 7);
        for (int t = 0; t < trunks; t++) {
            s.append(random.nextInt(3) == 0 ? "treaty " : "trunk ").append(random.nextInt(words)).append(' ');
            s.append(random.nextInt(words)).append(' ').append(random.nextInt(10)).append(';');
        }
        if (random.nextInt(3) > 0) {
            s.append("heat");
            int heats = 1 + random.nextInt(random.nextInt(20) == 0 ? 9 : 8);
            for (int h = 0; h < heats; h++) {
                s.append(' ').append(random.nextInt(10));
            }
            s.append("; ");
        }
        if (grows) {
            s.append("grows ").append(or(random.nextInt(4))).append(';');
        }
        for (int k = random.nextInt(3) == 0 ? 1 + random.nextInt(3) : 0; k > 0; k--) {
            spoil(s);
        }
        return s.length() > 700 ? s.substring(0, 700) : s.toString();
    }

    private void spoil(StringBuilder s) {
        int i = random.nextInt(s.length() + 1);
        int kind = random.nextInt(5);
        if (kind <= 1) {
            s.insert(i, " " + STRAYS[random.nextInt(STRAYS.length)] + " ");
        } else if (kind == 2) {
            s.insert(i, STRAYS[random.nextInt(STRAYS.length)]);
        } else if (kind == 3) {
            s.delete(i, Math.min(s.length(), i + 1 + random.nextInt(3)));
        } else {
            s.setLength(i);
        }
    }

    private String or(int deep) {
        String s = and(deep);
        for (int k = random.nextInt(5) == 0 ? 1 + random.nextInt(2) : 0; k > 0; k--) {
            s += " or " + and(deep);
        }
        return s;
    }

    private String and(int deep) {
        String s = not(deep);
        for (int k = random.nextInt(5) == 0 ? 1 + random.nextInt(2) : 0; k > 0; k--) {
            s += " and " + not(deep);
        }
        return s;
    }

    private String not(int deep) {
        if (random.nextInt(8) == 0) {
            return "not " + not(deep);
        }
        String s = sum(deep);
        if (random.nextInt(3) == 0) {
            s += (random.nextBoolean() ? "<" : " = ") + sum(deep);
        }
        return s;
    }

    private String sum(int deep) {
        String s = product(deep);
        for (int k = random.nextInt(3) == 0 ? 1 + random.nextInt(2) : 0; k > 0; k--) {
            s += (random.nextBoolean() ? " + " : "-") + product(deep);
        }
        return s;
    }

    private String product(int deep) {
        String s = part(deep);
        for (int k = random.nextInt(4) == 0 ? 1 + random.nextInt(2) : 0; k > 0; k--) {
            s += (random.nextBoolean() ? "*" : " / ") + part(deep);
        }
        return s;
    }

    private String part(int deep) {
        if (deep > 0 && random.nextInt(4) == 0) {
            return "(" + or(deep - 1) + ")";
        }
        if (random.nextInt(3) == 0) {
            return "" + random.nextInt(random.nextInt(4) == 0 ? 10000 : 5);
        }
        return VALUES[random.nextInt(VALUES.length)];
    }

    // ---- calls

    private int few(int n) {
        if (random.nextInt(400) == 0) {
            int[] far = {Integer.MIN_VALUE, Integer.MAX_VALUE, -2, 1 << 30, 1000000, -1000};
            return far[random.nextInt(far.length)];
        }
        return random.nextInt(30) == 0 ? random.nextInt(n + 4) - 2 : random.nextInt(Math.max(1, n));
    }

    private boolean call() {
        int words = model.words();
        int trunks = model.n();
        int kind = random.nextInt(34);
        return switch (kind) {
            case 0 -> random.nextInt(8) > 0
                || same(0, random.nextInt(), random.nextInt(), random.nextInt(), random.nextInt(), random.nextInt());
            case 1 -> random.nextInt(20) > 0 || same(1, few(100), 0, 0, 0, 0);
            case 3 -> same(3, few(13), 0, 0, 0, 0);
            case 4 -> same(4, few(words), few(5), 0, 0, 0);
            case 5 -> same(5, few(words), few(8), 0, 0, 0);
            case 6 -> same(6, few(trunks), few(8), 0, 0, 0);
            case 7 -> same(7, few(random.nextBoolean() ? 4 : 22), 0, 0, 0, 0);
            case 8 -> same(8, few(trunks), few(10), 0, 0, 0);
            case 9 -> same(9, few(trunks), few(random.nextBoolean() ? 3 : 10), 0, 0, 0);
            case 10 -> same(10, few(trunks), 0, 0, 0, 0);
            case 11 -> same(11, few(trunks), few(2), few(words), 0, 0);
            case 12 -> same(12, 0, 0, 0, 0, 0);
            case 13 -> same(13, few(trunks), few(random.nextBoolean() ? 8 : 61), few(4), 0, 0);
            case 14 -> same(14, few(trunks), few(16), few(random.nextBoolean() ? 8 : 61), 0, 0);
            case 15 -> same(15, few(random.nextBoolean() ? 8 : 61), few(3), 0, 0, 0);
            case 16 -> same(16, few(trunks), 0, 0, 0, 0);
            case 17 -> same(17, few(trunks), few(words), 0, 0, 0);
            case 18 -> same(18, few(trunks), few(trunks), 0, 0, 0);
            case 19 -> same(19, few(words), few(words), few(3), 0, 0);
            case 20 -> words > 6 && random.nextInt(40) > 0 || same(20, few(words + 1) - 1, 0, 0, 0, 0);
            case 21 -> same(21, few(words + 1) - 1, 0, 0, 0, 0);
            case 22 -> same(22, few(trunks), few(random.nextBoolean() ? 8 : 61), 0, 0, 0);
            case 23 -> same(23, 0, 0, 0, 0, 0);
            case 24 -> see();
            case 25 -> random.nextInt(3) > 0 || same(25, few(3), 0, 0, 0, 0);
            case 26 -> random.nextInt(3) > 0 || same(26, few(2), 0, 0, 0, 0);
            case 27 -> random.nextInt(3) > 0 || same(27, 0, 0, 0, 0, 0);
            case 28 -> same(28, few(trunks), few(6), few(11), 0, 0);
            case 29 -> same(29, few(trunks), few(trunks), few(2), 0, 0);
            case 30 -> same(30, random.nextInt(), few(random.nextBoolean() ? 8 : 61), few(3), 0, 0);
            case 31 -> random.nextInt(4) > 0 || same(31, 0, 0, 0, 0, 0);
            case 32 -> random.nextInt(4) > 0 || same(32, 0, 0, 0, 0, 0);
            default -> same(2, 0, 0, 0, 0, 0);
        };
    }

    private boolean see() {
        int trunk = few(model.n());
        int days = few(21);
        int letters = few(17);
        if (model.hasTrunk(trunk) && days >= 0 && days <= 20 && random.nextInt(5) > 0) {
            Model.State from = model.with(trunk, random.nextInt(10));
            letters = model.blendOf(model.behind(from, days).trunks.get(trunk)).length();
        }
        return same(24, trunk, days, letters, 0, 0);
    }

    private static final String[] NAMES = {
        "feed", "baggage", "fault", "count", "word", "letter", "trunk", "days", "draw", "pull", "turn", "pack", "undo",
        "then", "blend", "later", "full", "read", "alike", "both", "row", "chain", "toDraw", "couples", "see", "loose",
        "look", "forget", "seasons", "game", "years", "image", "restore"
    };

    private boolean same(int kind, int a, int b, int c, int d, int e) {
        String want = answerOfModel(kind, a, b, c, d, e);
        String got = answerOfReal(kind, a, b, c, d, e);
        log.append(NAMES[kind]).append(' ').append(a).append(' ').append(b).append(' ').append(c);
        log.append(" -> ").append(got).append('\n');
        if (!want.equals(got)) {
            log.append("due is ").append(want).append('\n');
        }
        return want.equals(got);
    }

    private String answerOfReal(int kind, int a, int b, int c, int d, int e) {
        try {
            return "" + real(kind, a, b, c, d, e);
        } catch (RuntimeException x) {
            return x.getClass().getName();
        }
    }

    private String answerOfModel(int kind, int a, int b, int c, int d, int e) {
        try {
            return "" + model(kind, a, b, c, d, e);
        } catch (NoSuchElementException | IllegalArgumentException x) {
            return x.getClass().getName();
        }
    }

    private int real(int kind, int a, int b, int c, int d, int e) {
        switch (kind) {
            case 0: return real.feed(a, b, c, d, e);
            case 1: return real.baggage(a);
            case 2: return real.fault();
            case 3: return real.count(a);
            case 4: return real.word(a, b);
            case 5: return real.letter(a, b);
            case 6: return real.trunk(a, b);
            case 7: return real.days(a);
            case 8: return real.draw(a, b);
            case 9: return real.pull(a, b);
            case 10: return real.turn(a);
            case 11: return real.pack(a, b, c);
            case 12: return real.undo();
            case 13: return real.then(a, b, c);
            case 14: return real.blend(a, b, c);
            case 15: return real.later(a, b);
            case 16: return real.full(a);
            case 17: return real.read(a, b);
            case 18: return real.alike(a, b);
            case 19: return real.both(a, b, c);
            case 20: return real.row(a);
            case 21: return real.chain(a);
            case 22: return real.toDraw(a, b);
            case 23: return real.couples();
            case 24: return real.see(a, b, c);
            case 25: return real.loose(a);
            case 26: return real.look(a);
            case 27: real.forget(); return 0;
            case 28: return real.seasons(a, b, c);
            case 29: return real.game(a, b, c);
            case 30: return real.years(a, b, c);
            case 31: real.image(); return 0;
            default: return real.restore() ? 1 : 0;
        }
    }

    private int model(int kind, int a, int b, int c, int d, int e) {
        switch (kind) {
            case 0: return model.feed(a, b, c, d, e);
            case 1: return model.baggage(a);
            case 2: return model.fault();
            case 3: return model.count(a);
            case 4: return model.word(a, b);
            case 5: return model.letter(a, b);
            case 6: return model.trunk(a, b);
            case 7: return model.days(a);
            case 8: return model.draw(a, b);
            case 9: return model.pull(a, b);
            case 10: return model.turn(a);
            case 11: return model.pack(a, b, c);
            case 12: return model.undo();
            case 13: return model.then(a, b, c);
            case 14: return model.blend(a, b, c);
            case 15: return model.later(a, b);
            case 16: return model.full(a);
            case 17: return model.read(a, b);
            case 18: return model.alike(a, b);
            case 19: return model.both(a, b, c);
            case 20: return model.row(a);
            case 21: return model.chain(a);
            case 22: return model.toDraw(a, b);
            case 23: return model.couples();
            case 24: return model.see(a, b, c);
            case 25: return model.loose(a);
            case 26: return model.look(a);
            case 27: model.forget(); return 0;
            case 28: return model.seasons(a, b, c);
            case 29: return model.game(a, b, c);
            case 30: return model.years(a, b, c);
            case 31: model.image(); return 0;
            default: return model.restore() ? 1 : 0;
        }
    }
}
