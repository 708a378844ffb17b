import java.util.Random;

/** Runs of 512 calls by draws from fixed seeds, on the class and on the model at once. */
public final class RandomRunsTest {
    private static final int RUNS = 400, CALLS = 512;
    private static final int[] EXTREMES = {Integer.MIN_VALUE, Integer.MAX_VALUE, -1, -2, 1 << 16, 72, 64, 100};

    private final Random random;
    private final LoafLetters real = new LoafLetters();
    private final Model model = new Model();
    private int calls = 0;

    private RandomRunsTest(int seed) {
        random = new Random(seed);
    }

    public static void main(String[] args) {
        for (int seed = 0; seed < RUNS; seed++) {
            new RandomRunsTest(seed).run(seed);
        }
        Due.end("RandomRunsTest");
    }

    private void run(int seed) {
        writeText();
        while (calls < CALLS) {
            String at = "run " + seed + ", call " + calls + ": ";
            calls++;
            int group = random.nextInt(20);
            if (group == 0) {
                valleyCall(at);
            } else if (group < 12) {
                larderCall(at);
            } else if (group < 15) {
                signCall(at);
            } else {
                otherCall(at);
            }
        }
    }

    private static void due(String call, long got, long want) {
        Due.due(call, got, want);
    }

    /** A number from low to high; one just or far outside now and then. */
    private int pick(int low, int high) {
        int draw = random.nextInt(60);
        if (draw == 0) {
            return EXTREMES[random.nextInt(EXTREMES.length)];
        }
        if (draw == 1) {
            return random.nextBoolean() ? low - 1 : high + 1;
        }
        return high < low ? low : low + random.nextInt(high - low + 1);
    }

    private int below(int n) {
        return pick(0, n - 1);
    }

    private void valleyCall(String at) {
        switch (random.nextInt(6)) {
            case 0 -> due(at + "fault()", real.fault(), model.fault());
            case 1 -> due(at + "lay()", real.lay(), model.lay());
            case 2 -> {
                int n = pick(1, 8);
                long v = random.nextLong();
                due(at + "write(" + n + ", " + v + ")", real.write(n, v), model.write(n, v));
            }
            case 3 -> writeText();
            default -> {
                due(at + "wipe()", real.wipe(), model.wipe());
                writeText();
            }
        }
    }

    private void writeText() {
        String text = drawnText();
        int from = 0;
        // Behind its 512th call an object's answers are free.
        while (from < text.length() && calls < CALLS - 2) {
            int n = Math.min(1 + random.nextInt(8), text.length() - from);
            long v = random.nextLong();
            for (int i = 0; i < n; i++) {
                v = v << 8 | text.charAt(from + i);
            }
            due("write(" + n + ", " + v + ")", real.write(n, v), model.write(n, v));
            from += n;
            calls++;
        }
        if (calls <= CALLS - 2) {
            due("fault() of " + text, real.fault(), model.fault());
            due("lay() of " + text, real.lay(), model.lay());
            calls += 2;
        }
    }

    private String number(int low, int high) {
        int x = low + random.nextInt(high - low + 1);
        if (random.nextInt(400) == 0) {
            x = random.nextBoolean() ? high + 1 : random.nextInt(120);
        }
        return x < 10 && random.nextInt(8) == 0 ? "0" + x : "" + x;
    }

    private String drawnText() {
        StringBuilder text = new StringBuilder();
        int items = random.nextInt(16) + 2;
        for (int i = 0; i < items; i++) {
            switch (random.nextInt(9)) {
                case 0 -> text.append("b").append(number(1, 9)).append(",").append(number(1, 9)).append(";");
                case 1, 2 -> text.append("c").append(number(0, 9)).append(",").append(number(1, 6)).append(";");
                case 3, 4 -> text.append("k").append(number(0, 63)).append(";");
                default -> text.append("w").append(number(0, 5)).append(",").append(number(0, 3)).append(",")
                    .append(number(0, 2)).append(",").append(number(0, 99)).append(";");
            }
        }
        if (random.nextInt(12) == 0) {
            int place = random.nextInt(text.length());
            text.setCharAt(place, random.nextBoolean() ? ";,wbck0189 "
                .charAt(random.nextInt(11)) : (char) random.nextInt(256));
        }
        return text.toString();
    }

    private void larderCall(String at) {
        int loaves = model.count(3);
        int i = below(loaves);
        switch (random.nextInt(14)) {
            case 0, 1, 2 -> {
                int w = below(model.count(0));
                int kind = pick(0, 3);
                due(at + "bake(" + w + ", " + kind + ")", real.bake(w, kind), model.bake(w, kind));
            }
            case 3, 4 -> due(at + "day()", real.day(), model.day());
            case 5 -> due(at + "bite(" + i + ")", real.bite(i), model.bite(i));
            case 6 -> due(at + "take(" + i + ")", real.take(i), model.take(i));
            case 7 -> due(at + "undo()", real.undo(), model.undo());
            case 8 -> due(at + "keep()", real.keep(), model.keep());
            case 9 -> due(at + "back()", real.back(), model.back());
            case 10 -> {
                int what = pick(0, 7);
                due(at + "count(" + what + ")", real.count(what), model.count(what));
            }
            default -> {
                int what = pick(0, 5);
                due(at + "loaf(" + i + ", " + what + ")", real.loaf(i, what), model.loaf(i, what));
            }
        }
    }

    private void signCall(String at) {
        int sign = random.nextBoolean() ? pick(0, 71) : model.word(random.nextInt(model.count(0)), 0);
        int to = pick(0, 71);
        int d = pick(0, 20);
        int b = pick(0, 3);
        switch (random.nextInt(8)) {
            case 0, 1 -> due(at + "becomes(" + sign + ", " + d + ", " + b + ")", real.becomes(sign, d, b), model.becomes(sign, d, b));
            case 2 -> due(at + "mayBe(" + sign + ", " + d + ", " + b + ")", real.mayBe(sign, d, b), model.mayBe(sign, d, b));
            case 3 -> due(at + "can(" + sign + ", " + to + ", " + d + ", " + b + ")", real.can(sign, to, d, b), model.can(sign, to, d, b));
            case 4, 5 -> due(at + "was(" + sign + ", " + d + ", " + b + ")", real.was(sign, d, b), model.was(sign, d, b));
            case 6 -> {
                int s = pick(0, 5);
                int c = pick(0, 3);
                int f = pick(0, 2);
                due(at + "half(" + s + ", " + c + ", " + f + ")", real.half(s, c, f), model.half(s, c, f));
            }
            default -> {
                int k = pick(1, 3);
                int i = pick(-1, k - 1 < 3 ? k - 1 : 2);
                due(at + "code(" + k + ", " + d + ", " + b + ", " + i + ")", real.code(k, d, b, i), model.code(k, d, b, i));
            }
        }
    }

    private void otherCall(String at) {
        int w = below(model.count(0));
        int i = below(model.count(1));
        int j = below(model.count(1));
        int a = random.nextBoolean() ? pick(0, 20) : pick(0, 4);
        int part = pick(0, 1);
        switch (random.nextInt(7)) {
            case 0 -> {
                int what = pick(0, 2);
                due(at + "word(" + w + ", " + what + ")", real.word(w, what), model.word(w, what));
            }
            case 1 -> due(at + "sent(" + w + ", " + i + ", " + a + ", " + part + ")", real.sent(w, i, a, part), model.sent(w, i, a, part));
            case 2 -> due(at + "whom(" + w + ", " + a + ")", real.whom(w, a), model.whom(w, a));
            case 3 -> due(at + "two(" + w + ", " + i + ", " + j + ", " + a + ", " + part + ")", real.two(w, i, j, a, part), model.two(w, i, j, a, part));
            case 4 -> {
                int f = random.nextBoolean() ? pick(0, 99) : pick(0, 30);
                due(at + "said(" + f + ", " + part + ")", real.said(f, part), model.said(f, part));
            }
            case 5 -> {
                int set = random.nextBoolean() ? pick(0, 63) : 1 << random.nextInt(7);
                due(at + "told(" + set + ", " + part + ")", real.told(set, part), model.told(set, part));
            }
            default -> {
                int z = pick(0, 9999);
                int n = pick(1, 30);
                due(at + "month(" + z + ", " + n + ", " + part + ")", real.month(z, n, part), model.month(z, n, part));
            }
        }
    }
}
