/** Where the document bounds what signs become and codes: 'Terms', promises 13 to 18; a test a sentence. */
public final class SignBoundsTest {
    private static final int BAD = LoafLetters.BAD, NONE = LoafLetters.NONE;

    public static void main(String[] args) {
        becomesDays();
        becomesBites();
        becomesIsBad();
        mayBeBehind0ToDDays();
        mayBeBehind0ToBBites();
        mayBeIsBad();
        canOfEverySign();
        canOrNot();
        canIsBad();
        wasOfDays();
        wasOfBites();
        wasOfNoneAndAll();
        wasIsBad();
        halfSeedsOrMore();
        halfCutsOrMore();
        halfOfAFilling();
        halfIsBad();
        codeOf1To3();
        codeOfDays();
        codeOfBites();
        codeOfLeastFlour();
        codeOfSeveralTheFirst();
        codeGoesUp();
        codeOfNone();
        codeIsBad();
        Due.end("SignBoundsTest");
    }

    private static void sentence(String words) {
        Due.sentence(words);
    }

    private static void due(String call, long got, long want) {
        Due.due(call, got, want);
    }

    private static LoafLetters losses(int b, int m) {
        return Due.laid("w0,0,0,0;b" + b + "," + m + ";");
    }

    // ---- promise 13

    private static void becomesDays() {
        sentence("Promise 13: by d days (0 to 20)");
        LoafLetters x = losses(9, 9);
        Due.range("becomes(71, #, 0)", 0, 20, d -> x.becomes(71, d, 0));
        int[] days = {0, 8, 9, 17, 18, 20};
        int[] signs = {53, 53, 58, 58, 63, 63};
        for (int i = 0; i < days.length; i++) {
            due("becomes(53, " + days[i] + ", 0)", x.becomes(53, days[i], 0), signs[i]);
        }
        LoafLetters y = losses(4, 5);
        due("becomes(5, 19, 0)", y.becomes(5, 19, 0), 19);
        due("becomes(5, 20, 0)", y.becomes(5, 20, 0), 18);
    }

    private static void becomesBites() {
        sentence("Promise 13: b bites (0 to 3)");
        LoafLetters x = new LoafLetters();
        Due.range("becomes(71, 0, #)", 0, 3, b -> x.becomes(71, 0, b));
        int[] signs = {71, 23, 18, 0};
        for (int b = 0; b <= 3; b++) {
            due("becomes(71, 0, " + b + ")", x.becomes(71, 0, b), signs[b]);
        }
        due("becomes(71, 20, 1)", x.becomes(71, 20, 1), 18);
        due("becomes(71, 20, 2): no SEEDS, so the CUTS", x.becomes(71, 20, 2), 0);
    }

    private static void becomesIsBad() {
        sentence("Promise 13: BAD");
        LoafLetters x = new LoafLetters();
        Due.range("becomes(#, 20, 3)", 0, 71, sign -> x.becomes(sign, 20, 3));
        due("becomes(72, 21, 4)", x.becomes(72, 21, 4), BAD);
        due("becomes(-1, -1, -1)", x.becomes(-1, -1, -1), BAD);
    }

    // ---- promises 14, 15

    private static void mayBeBehind0ToDDays() {
        sentence("MAY BE: how many SIGNS a PLAIN one can have behind 0 to d (0 to 20) days");
        LoafLetters x = losses(9, 9);
        Due.range("mayBe(5, #, 0)", 0, 20, d -> x.mayBe(5, d, 0));
        int[] days = {0, 8, 9, 17, 18, 20};
        int[] signs = {1, 1, 2, 2, 3, 3};
        for (int i = 0; i < days.length; i++) {
            due("mayBe(5, " + days[i] + ", 0)", x.mayBe(5, days[i], 0), signs[i]);
        }
        // Each day takes a seed and makes a cut: 5, 10, 15, 20, 19, 18 and no more.
        LoafLetters y = losses(1, 1);
        for (int d = 0; d <= 20; d++) {
            due("mayBe(5, " + d + ", 0) of b1,1;", y.mayBe(5, d, 0), Math.min(d, 5) + 1);
        }
        LoafLetters z = losses(4, 5);
        due("mayBe(5, 19, 0)", z.mayBe(5, 19, 0), 8);
        due("mayBe(5, 20, 0)", z.mayBe(5, 20, 0), 9);
    }

    private static void mayBeBehind0ToBBites() {
        sentence("MAY BE: and 0 to b (0 to 3) bites");
        LoafLetters x = new LoafLetters();
        Due.range("mayBe(71, 0, #)", 0, 3, b -> x.mayBe(71, 0, b));
        for (int b = 0; b <= 3; b++) {
            due("mayBe(71, 0, " + b + ")", x.mayBe(71, 0, b), b + 1);
            due("mayBe(5, 0, " + b + ")", x.mayBe(5, 0, b), Math.min(b, 1) + 1);
            due("mayBe(0, 0, " + b + "): nothing to lose", x.mayBe(0, 0, b), 1);
        }
    }

    private static void mayBeIsBad() {
        sentence("Promise 14: BAD");
        LoafLetters x = new LoafLetters();
        Due.range("mayBe(#, 20, 3)", 0, 71, sign -> x.mayBe(sign, 20, 3));
        due("mayBe(72, 21, 4)", x.mayBe(72, 21, 4), BAD);
        due("mayBe(-1, -1, -1)", x.mayBe(-1, -1, -1), BAD);
    }

    private static void canOfEverySign() {
        sentence("MAY BE: of each SIGN (0 to 71), behind no days and bites itself alone");
        for (int sign = 0; sign < 72; sign++) {
            LoafLetters x = losses(1, 1);
            // What was asked ahead, of more days and bites, is no part of what is asked now.
            x.mayBe(sign, 20, 3);
            due("mayBe(" + sign + ", 0, 0)", x.mayBe(sign, 0, 0), 1);
            for (int to = 0; to < 72; to++) {
                due("can(" + sign + ", " + to + ", 0, 0)", x.can(sign, to, 0, 0), sign == to ? 1 : 0);
            }
        }
    }

    private static void canOrNot() {
        sentence("MAY BE: whether it can have one. Promise 15: 1, 0");
        LoafLetters x = losses(9, 9);
        due("can(5, 10, 8, 0)", x.can(5, 10, 8, 0), 0);
        due("can(5, 10, 9, 0)", x.can(5, 10, 9, 0), 1);
        due("can(5, 15, 17, 0)", x.can(5, 15, 17, 0), 0);
        due("can(5, 15, 18, 0)", x.can(5, 15, 18, 0), 1);
        due("can(5, 10, 20, 0): a day between", x.can(5, 10, 20, 0), 1);
        due("can(5, 5, 20, 3): none at all", x.can(5, 5, 20, 3), 1);
        due("can(71, 23, 0, 0)", x.can(71, 23, 0, 0), 0);
        due("can(71, 23, 0, 1)", x.can(71, 23, 0, 1), 1);
        due("can(71, 18, 0, 1)", x.can(71, 18, 0, 1), 0);
        due("can(71, 18, 0, 2)", x.can(71, 18, 0, 2), 1);
        due("can(71, 0, 0, 2)", x.can(71, 0, 0, 2), 0);
        due("can(71, 0, 0, 3)", x.can(71, 0, 0, 3), 1);
        due("can(71, 23, 0, 3): fewer bites", x.can(71, 23, 0, 3), 1);
        due("can(71, 71, 0, 0): itself", x.can(71, 71, 0, 0), 1);
        due("can(0, 71, 20, 3)", x.can(0, 71, 20, 3), 0);
    }

    private static void canIsBad() {
        sentence("Promise 15: BAD");
        LoafLetters x = new LoafLetters();
        Due.range("can(#, 0, 0, 0)", 0, 71, sign -> x.can(sign, 0, 0, 0));
        Due.range("can(0, #, 0, 0)", 0, 71, to -> x.can(0, to, 0, 0));
        Due.range("can(0, 0, #, 0)", 0, 20, d -> x.can(0, 0, d, 0));
        Due.range("can(0, 0, 0, #)", 0, 3, b -> x.can(0, 0, 0, b));
    }

    // ---- promises 16, 17

    private static void wasOfDays() {
        sentence("WAS: the WORDS (bits) whose PLAIN LOAF can so have a SIGN: days");
        LoafLetters x = Due.laid(TextBoundsTest.EIGHT);
        Due.range("was(0, #, 0)", 0, 20, d -> x.was(0, d, 0));
        due("was(0, 1, 0)", x.was(0, 1, 0), 1);
        due("was(0, 2, 0)", x.was(0, 2, 0), 3);
        due("was(6, 2, 0)", x.was(6, 2, 0), 192);
        due("was(6, 3, 0)", x.was(6, 3, 0), 195);
        due("was(7, 0, 0)", x.was(7, 0, 0), 128);
    }

    private static void wasOfBites() {
        sentence("WAS: the WORDS (bits) whose PLAIN LOAF can so have a SIGN: bites");
        LoafLetters x = Due.laid(TextBoundsTest.EIGHT);
        Due.range("was(0, 0, #)", 0, 3, b -> x.was(0, 0, b));
        int[] bits = {1, 127, 255, 255};
        for (int b = 0; b <= 3; b++) {
            due("was(0, 0, " + b + ")", x.was(0, 0, b), bits[b]);
        }
        due("was(6, 0, 0)", x.was(6, 0, 0), 64);
        due("was(6, 0, 1)", x.was(6, 0, 1), 192);
        LoafLetters filled = Due.laid("w5,3,2,0;");
        due("was(0, 0, 2)", filled.was(0, 0, 2), 0);
        due("was(0, 0, 3)", filled.was(0, 0, 3), 1);
    }

    private static void wasOfNoneAndAll() {
        sentence("WAS, as bits: of no WORD, of all");
        LoafLetters x = Due.laid(TextBoundsTest.EIGHT);
        due("was(71, 20, 3)", x.was(71, 20, 3), 0);
        due("was(0, 20, 3)", x.was(0, 20, 3), 255);
        for (int w = 0; w < 8; w++) {
            due("was(" + w + ", 0, 0)", x.was(w, 0, 0), 1 << w);
        }
        due("was(8, 0, 0)", x.was(8, 0, 0), 0);
    }

    private static void wasIsBad() {
        sentence("Promise 16: BAD");
        LoafLetters x = new LoafLetters();
        Due.range("was(#, 20, 3)", 0, 71, sign -> x.was(sign, 20, 3));
        due("was(72, 21, 4)", x.was(72, 21, 4), BAD);
        due("was(-1, -1, -1)", x.was(-1, -1, -1), BAD);
    }

    private static void halfSeedsOrMore() {
        sentence("HALF: the WORDS (bits) of s SEEDS or more");
        LoafLetters x = Due.laid(TextBoundsTest.EIGHT);
        int[] bits = {255, 190, 60, 56, 48, 32};
        for (int s = 0; s <= 5; s++) {
            due("half(" + s + ", 0, 0)", x.half(s, 0, 0), bits[s]);
        }
    }

    private static void halfCutsOrMore() {
        sentence("HALF: c CUTS or more");
        LoafLetters x = Due.laid("w0,0,0,0;w0,1,0,0;w0,2,0,0;w0,3,0,0;w5,3,0,0;");
        int[] bits = {31, 30, 28, 24};
        for (int c = 0; c <= 3; c++) {
            due("half(0, " + c + ", 0)", x.half(0, c, 0), bits[c]);
        }
        due("half(5, 3, 0)", x.half(5, 3, 0), 16);
    }

    private static void halfOfAFilling() {
        sentence("HALF: and FILLING f");
        LoafLetters x = Due.laid("w0,0,0,0;w0,0,1,0;w0,0,2,0;w5,3,2,0;");
        int[] bits = {1, 2, 12};
        for (int f = 0; f <= 2; f++) {
            due("half(0, 0, " + f + ")", x.half(0, 0, f), bits[f]);
        }
        due("half(5, 3, 2)", x.half(5, 3, 2), 8);
        due("half(5, 3, 1)", x.half(5, 3, 1), 0);
    }

    private static void halfIsBad() {
        sentence("Promise 17: BAD");
        LoafLetters x = new LoafLetters();
        Due.range("half(#, 0, 0)", 0, 5, s -> x.half(s, 0, 0));
        Due.range("half(0, #, 0)", 0, 3, c -> x.half(0, c, 0));
        Due.range("half(0, 0, #)", 0, 2, f -> x.half(0, 0, f));
    }

    // ---- promise 18

    /** FLOUR and the signs, or NONE in the first place. */
    private static void codeIs(LoafLetters x, int k, int d, int b, int... want) {
        for (int i = -1; i < k; i++) {
            due("code(" + k + ", " + d + ", " + b + ", " + i + ")", x.code(k, d, b, i), want[0] == NONE ? NONE : want[i + 1]);
        }
    }

    private static void codeOf1To3() {
        sentence("CODE of k (1 to 3) SIGNS");
        LoafLetters x = losses(9, 9);
        Due.range("code(#, 0, 0, -1)", 1, 3, k -> x.code(k, 0, 0, -1));
        codeIs(x, 1, 0, 0, 1, 0);
        codeIs(x, 2, 0, 0, 3, 0, 1);
        codeIs(x, 3, 0, 0, 6, 0, 1, 2);
    }

    private static void codeOfDays() {
        sentence("CODE for d (0 to 20) days: each behind 0 to d days");
        LoafLetters x = losses(9, 9);
        Due.range("code(3, #, 0, -1)", 0, 20, d -> x.code(3, d, 0, -1));
        codeIs(x, 2, 8, 0, 3, 0, 1);
        // On day 9 a sign of a seed, and one of none, come to be a cut alone.
        codeIs(x, 2, 9, 0, 4, 0, 2);
        codeIs(x, 2, 17, 0, 4, 0, 2);
        codeIs(x, 2, 18, 0, 5, 0, 3);
        codeIs(x, 2, 20, 0, 5, 0, 3);
        LoafLetters y = losses(4, 5);
        codeIs(y, 3, 19, 0, 11, 0, 5, 24);
        codeIs(y, 3, 20, 0, 12, 0, 24, 48);
    }

    private static void codeOfBites() {
        sentence("CODE for b (0 to 3) bites: 0 to b bites");
        LoafLetters x = losses(9, 9);
        Due.range("code(2, 0, #, -1)", 0, 3, b -> x.code(2, 0, b, -1));
        codeIs(x, 2, 0, 0, 3, 0, 1);
        codeIs(x, 2, 0, 1, 5, 0, 7);
        codeIs(x, 2, 0, 2, 8, 0, 31);
        codeIs(x, 2, 0, 3, NONE);
        codeIs(x, 1, 0, 3, 1, 0);
    }

    private static void codeOfLeastFlour() {
        sentence("CODE: those of least FLOUR together");
        codeIs(losses(9, 9), 3, 0, 1, 10, 0, 7, 25);
        codeIs(losses(9, 9), 3, 0, 2, 17, 0, 31, 37);
        codeIs(losses(1, 9), 2, 2, 0, 4, 0, 6);
        codeIs(losses(1, 9), 3, 3, 2, 23, 0, 34, 40);
    }

    private static void codeOfSeveralTheFirst() {
        sentence("CODE: of several the first (by the lowest, then the next)");
        // 0, 1, 6 have 6 of FLOUR, too.
        codeIs(losses(9, 9), 3, 0, 0, 6, 0, 1, 2);
        // 0, 24 have 5, too.
        codeIs(losses(9, 9), 2, 18, 0, 5, 0, 3);
        // 0, 26, 27 have 14, too.
        codeIs(losses(1, 1), 3, 1, 1, 14, 0, 14, 26);
        // 0, 27, 31 have 15, too.
        codeIs(losses(5, 2), 3, 5, 1, 15, 0, 26, 28);
    }

    private static void codeGoesUp() {
        sentence("CODE: FLOUR; the i-th, going up. Promise 18: FLOUR (i = -1), the i-th");
        LoafLetters x = losses(9, 9);
        for (int k = 1; k <= 3; k++) {
            int signs = k;
            Due.range("code(" + k + ", 0, 0, #)", -1, k - 1, i -> x.code(signs, 0, 0, i));
            Due.range("code(" + k + ", 20, 3, #)", -1, k - 1, i -> x.code(signs, 20, 3, i));
        }
    }

    private static void codeOfNone() {
        sentence("CODE: none. Promise 18: NONE");
        LoafLetters x = new LoafLetters();
        codeIs(x, 1, 20, 3, 1, 0);
        codeIs(x, 2, 20, 3, NONE);
        codeIs(x, 3, 20, 3, NONE);
        codeIs(x, 2, 8, 2, 16, 0, 47);
        codeIs(x, 2, 9, 2, NONE);
        codeIs(x, 3, 8, 1, 20, 0, 29, 42);
        codeIs(x, 3, 9, 1, NONE);
    }

    private static void codeIsBad() {
        sentence("Promise 18: BAD");
        LoafLetters x = new LoafLetters();
        due("code(0, 0, 0, -1)", x.code(0, 0, 0, -1), BAD);
        due("code(4, 0, 0, -1)", x.code(4, 0, 0, -1), BAD);
        due("code(1, 21, 0, 0)", x.code(1, 21, 0, 0), BAD);
        due("code(1, -1, 0, 0)", x.code(1, -1, 0, 0), BAD);
        due("code(1, 0, 4, 0)", x.code(1, 0, 4, 0), BAD);
        due("code(1, 0, -1, 0)", x.code(1, 0, -1, 0), BAD);
        due("code(1, 0, 0, -2)", x.code(1, 0, 0, -2), BAD);
        due("code(1, 0, 0, 1)", x.code(1, 0, 0, 1), BAD);
        due("code(0, 0, 0, 0)", x.code(0, 0, 0, 0), BAD);
    }
}
