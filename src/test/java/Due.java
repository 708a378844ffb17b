import java.util.HashSet;
import java.util.Set;
import java.util.function.IntToLongFunction;

/** What the tests share: counting wrong answers, the sentence that they speak for, and texts as words. */
final class Due {
    private static int wrong = 0;
    private static final Set<String> SENTENCES = new HashSet<>();
    private static String sentence = "";

    private Due() {
    }

    /** The document's words that the answers from here on are due to. */
    static void sentence(String words) {
        SENTENCES.add(words);
        sentence = "[" + words + "] ";
    }

    static void due(String call, long got, long want) {
        if (got != want) {
            wrong++;
            System.out.println(sentence + call + " answered " + got + ", due is " + want);
        }
    }

    static void same(String what, String got, String want) {
        if (!got.equals(want)) {
            wrong++;
            System.out.println(sentence + what + " is " + got + ", due is " + want);
        }
    }

    /** From low to high a number is told; just outside, and far outside, it is BAD. */
    static void range(String call, int low, int high, IntToLongFunction answer) {
        int[] told = {low, Math.min(low + 1, high), Math.max(high - 1, low), high};
        for (int v : told) {
            due(call + " of " + v + " is BAD", answer.applyAsLong(v) == LoafLetters.BAD ? 1 : 0, 0);
        }
        int[] beyond = {low - 1, high + 1, low - 2, high + 2, low - 256, high + 256, Integer.MIN_VALUE, Integer.MAX_VALUE};
        for (int v : beyond) {
            due(call + " of " + v, answer.applyAsLong(v), LoafLetters.BAD);
        }
    }

    static void end(String test) {
        String told = SENTENCES.isEmpty() ? "" : SENTENCES.size() + " sentences, ";
        System.out.println(test + ": " + told + (wrong == 0 ? "all answers are as due" : wrong + " answers are not as due"));
        if (wrong != 0) {
            System.exit(1);
        }
    }

    /** Writes a text of characters 0 to 255, eight bytes a call. */
    static void write(LoafLetters x, String text) {
        for (int from = 0; from < text.length(); from += 8) {
            int n = Math.min(8, text.length() - from);
            long v = 0;
            for (int i = 0; i < n; i++) {
                v = v << 8 | text.charAt(from + i);
            }
            x.write(n, v);
        }
    }

    static LoafLetters written(String text) {
        LoafLetters x = new LoafLetters();
        write(x, text);
        due("count(7) of " + text, x.count(7), text.length());
        return x;
    }

    static LoafLetters laid(String text) {
        LoafLetters x = new LoafLetters();
        write(x, text);
        due("lay() of " + text, x.lay() > 0 ? 1 : 0, 1);
        return x;
    }

    static void days(LoafLetters x, int n) {
        for (int i = 0; i < n; i++) {
            x.day();
        }
    }

    static void bites(LoafLetters x, int loaf, int n) {
        for (int i = 0; i < n; i++) {
            x.bite(loaf);
        }
    }
}
