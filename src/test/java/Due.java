/** What the tests share: counting wrong answers, and texts as words. */
final class Due {
    private static int wrong = 0;

    private Due() {
    }

    static void due(String call, long got, long want) {
        if (got != want) {
            wrong++;
            System.out.println(call + " answered " + got + ", due is " + want);
        }
    }

    static void end(String test) {
        System.out.println(test + ": " + (wrong == 0 ? "all answers are as due" : wrong + " answers are not as due"));
        if (wrong != 0) {
            System.exit(1);
        }
    }

    /** Writes a text of characters 0 to 255, eight bytes a call. */
    static void write(LoafLetters x, String text) {
        for (int from = 0; from < text.length(); from += 8) {
            int n = Math.min(8, text.length() - from);
            long v = 0;
            for (int i = 0; i < n; i++) {
                v = v << 8 | text.charAt(from + i);
            }
            x.write(n, v);
        }
    }

    static LoafLetters laid(String text) {
        LoafLetters x = new LoafLetters();
        write(x, text);
        due("lay() of " + text, x.lay() > 0 ? 1 : 0, 1);
        return x;
    }
}
