/** Where the document bounds carriers, flour, bakers, months and counts: promises 19 to 24 and 27; a test a sentence. */
public final class SendingBoundsTest {
    private static final int BAD = LoafLetters.BAD, NONE = LoafLetters.NONE;

    public static void main(String[] args) {
        sentAged();
        sentBittenInEachMile();
        sentInLowestTerms();
        sentIsBad();
        carriersSuchAsThereAre();
        whomTheBest();
        whomTheLowest();
        whomOfNone();
        whomIsBad();
        twoOneAtLeast();
        twoOfTheLongestWays();
        twoUnlikeCarriers();
        twoIsBad();
        saidByFlour();
        saidByTheMostFlour();
        saidOfMostWorth();
        saidOfLeastBits();
        saidIsBad();
        toldKnowAll();
        toldASetMayBe0();
        toldTheOnlyOne();
        toldIsBad();
        monthOfDays();
        monthByDraws();
        monthAsAnotherOne();
        monthIsBad();
        counts();
        countIsBad();
        Due.end("SendingBoundsTest");
    }

    private static void sentence(String words) {
        Due.sentence(words);
    }

    private static void due(String call, long got, long want) {
        Due.due(call, got, want);
    }

    private static void oddsAre(LoafLetters x, int w, int carrier, int a, int above, int below) {
        due("sent(" + w + ", " + carrier + ", " + a + ", 0)", x.sent(w, carrier, a, 0), above);
        due("sent(" + w + ", " + carrier + ", " + a + ", 1)", x.sent(w, carrier, a, 1), below);
    }

    // ---- promise 19

    private static void sentAged() {
        sentence("SENT: is AGED by a (0 to 20) days");
        LoafLetters x = Due.laid("w1,0,0,0;w0,0,0,0;w0,3,0,0;b9,8;c3,2;");
        Due.range("sent(0, 0, #, 1)", 0, 20, a -> x.sent(0, 0, a, 1));
        oddsAre(x, 0, 0, 0, 49, 100);
        oddsAre(x, 0, 0, 7, 49, 100);
        oddsAre(x, 0, 0, 8, 0, 1);
        oddsAre(x, 0, 0, 20, 0, 1);
        oddsAre(x, 1, 0, 7, 1, 1);
        // A cut of the mould is bitten off, or the word is not read.
        oddsAre(x, 1, 0, 8, 51, 100);
        oddsAre(x, 1, 0, 20, 51, 100);
        oddsAre(x, 2, 0, 20, 49, 100);
        LoafLetters y = Due.laid("w1,0,0,0;b9,9;c0,1;");
        oddsAre(y, 0, 0, 8, 1, 1);
        oddsAre(y, 0, 0, 9, 0, 1);
    }

    private static void sentBittenInEachMile() {
        sentence("SENT: and BITTEN once, or not, in each of his L miles");
        LoafLetters x = Due.laid("w5,3,2,0;w0,0,0,0;b9,9;c5,1;c5,2;c5,6;c9,6;c0,6;");
        oddsAre(x, 0, 0, 0, 1, 2);
        oddsAre(x, 0, 1, 0, 1, 4);
        oddsAre(x, 0, 2, 0, 1, 64);
        oddsAre(x, 0, 3, 0, 1, 1000000);
        oddsAre(x, 0, 4, 0, 1, 1);
        oddsAre(x, 1, 0, 9, 1, 2);
        oddsAre(x, 1, 1, 9, 3, 4);
        oddsAre(x, 1, 2, 9, 63, 64);
        oddsAre(x, 1, 3, 9, 999999, 1000000);
        oddsAre(x, 1, 4, 9, 0, 1);
        oddsAre(x, 1, 3, 0, 1, 1);
    }

    private static int power(int base, int exponent) {
        int product = 1;
        for (int i = 0; i < exponent; i++) {
            product *= base;
        }
        return product;
    }

    private static int divisor(int a, int b) {
        return b == 0 ? a : divisor(b, a % b);
    }

    private static void sentInLowestTerms() {
        sentence("SENT: the odds that it is READ as its WORD, in lowest terms");
        for (int h = 0; h <= 9; h++) {
            for (int l = 1; l <= 6; l++) {
                LoafLetters x = Due.laid("w1,0,0,0;c" + h + "," + l + ";");
                int above = power(10 - h, l);
                int below = power(10, l);
                int by = divisor(above, below);
                oddsAre(x, 0, 0, 0, above / by, below / by);
                oddsAre(x, 0, 0, 20, 0, 1);
            }
        }
    }

    private static void sentIsBad() {
        sentence("Promise 19: above (part = 0), below (1). BAD");
        LoafLetters x = Due.laid("w1,0,0,0;w2,0,0,0;c3,2;c4,2;c5,2;");
        Due.range("sent(#, 0, 0, 0)", 0, 1, w -> x.sent(w, 0, 0, 0));
        Due.range("sent(0, #, 0, 0)", 0, 2, c -> x.sent(0, c, 0, 0));
        Due.range("sent(0, 0, #, 0)", 0, 20, a -> x.sent(0, 0, a, 0));
        Due.range("sent(0, 0, 0, #)", 0, 1, part -> x.sent(0, 0, 0, part));
    }

    private static void carriersSuchAsThereAre() {
        sentence("CARRIERS: such as there are");
        String carriers = "";
        for (int n = 1; n <= 5; n++) {
            carriers += "c3,2;";
            LoafLetters x = Due.laid("w1,0,0,0;" + carriers);
            Due.range("sent(0, #, 0, 0) of " + n, 0, n - 1, c -> x.sent(0, c, 0, 0));
        }
        LoafLetters none = new LoafLetters();
        due("sent(0, 0, 0, 0) of none", none.sent(0, 0, 0, 0), BAD);
        due("sent(0, -1, 0, 0) of none", none.sent(0, -1, 0, 0), BAD);
        due("two(0, 0, 1, 0, 0) of none", none.two(0, 0, 1, 0, 0), BAD);
        LoafLetters one = Due.laid("w1,0,0,0;c3,2;");
        due("two(0, 0, 1, 0, 0) of one", one.two(0, 0, 1, 0, 0), BAD);
        due("two(0, 1, 0, 0, 0) of one", one.two(0, 1, 0, 0, 0), BAD);
    }

    // ---- promise 20

    private static void whomTheBest() {
        sentence("WHOM: the CARRIER of the best odds");
        due("whom(0, 0): 1/2 above 49/100", Due.laid("w1,0,0,0;c3,2;c5,1;").whom(0, 0), 1);
        due("whom(0, 0): 51/100 below 64/100", Due.laid("w1,0,0,0;c2,2;c3,2;").whom(0, 0), 0);
        due("whom(0, 0): 1/100000 above 1/1000000", Due.laid("w1,0,0,0;c9,6;c9,5;").whom(0, 0), 1);
        due("whom(0, 0): 1/1 above all", Due.laid("w1,0,0,0;c1,1;c1,2;c2,1;c9,6;c0,6;").whom(0, 0), 4);
        due("whom(0, 20): the hungriest takes the mould", Due.laid("w0,0,0,0;c0,6;c9,6;c9,5;").whom(0, 20), 1);
        due("whom(0, 1) ahead of the birds", Due.laid("w1,0,0,0;c9,6;c1,1;").whom(0, 1), 1);
        due("whom(0, 2) behind the birds", Due.laid("w1,0,0,0;c9,6;c1,1;").whom(0, 2), 0);
    }

    private static void whomTheLowest() {
        sentence("WHOM: the lowest");
        due("whom(0, 0) of like ones", Due.laid("w1,0,0,0;c9,6;c3,2;c3,2;c3,2;").whom(0, 0), 1);
        due("whom(0, 0) of 1/1 by unlike ways", Due.laid("w1,0,0,0;c1,1;c0,6;c0,1;").whom(0, 0), 1);
        due("whom(0, 20) of no odds at all", Due.laid("w1,0,0,0;c9,6;c3,2;c0,1;").whom(0, 20), 0);
    }

    private static void whomOfNone() {
        sentence("WHOM: none (no CARRIERS). Promise 20: NONE");
        due("whom(0, 0) of no CARRIERS", new LoafLetters().whom(0, 0), NONE);
        due("whom(0, 20) of no CARRIERS", new LoafLetters().whom(0, 20), NONE);
        due("whom(0, 0) of one", Due.laid("w1,0,0,0;c9,6;").whom(0, 0), 0);
        due("whom(0, 20) of one, by no odds", Due.laid("w1,0,0,0;c9,6;").whom(0, 20), 0);
    }

    private static void whomIsBad() {
        sentence("Promise 20: BAD");
        LoafLetters none = Due.laid("w1,0,0,0;w2,0,0,0;");
        Due.range("whom(#, 0) of no CARRIERS", 0, 1, w -> none.whom(w, 0));
        Due.range("whom(0, #) of no CARRIERS", 0, 20, a -> none.whom(0, a));
        LoafLetters one = Due.laid("w1,0,0,0;w2,0,0,0;c1,1;");
        Due.range("whom(#, 0)", 0, 1, w -> one.whom(w, 0));
        Due.range("whom(0, #)", 0, 20, a -> one.whom(0, a));
    }

    // ---- promise 21

    private static void twoAre(LoafLetters x, int w, int i, int j, int a, long above, long below) {
        String args = "(" + w + ", " + i + ", " + j + ", " + a;
        due("two" + args + ", 0)", x.two(w, i, j, a, 0), above);
        due("two" + args + ", 1)", x.two(w, i, j, a, 1), below);
    }

    private static void twoOneAtLeast() {
        sentence("TWO: the odds that of two such LOAVES one at least is READ as its WORD");
        LoafLetters x = Due.laid("w1,0,0,0;w0,0,0,0;c5,1;c3,2;c0,6;c9,1;");
        twoAre(x, 0, 0, 1, 0, 149, 200);
        twoAre(x, 0, 1, 0, 0, 149, 200);
        twoAre(x, 0, 0, 2, 0, 1, 1);
        twoAre(x, 0, 0, 3, 1, 11, 20);
        twoAre(x, 0, 0, 3, 2, 0, 1);
        twoAre(x, 0, 0, 3, 20, 0, 1);
        twoAre(x, 1, 0, 3, 2, 1, 1);
        twoAre(x, 1, 0, 3, 3, 19, 20);
        twoAre(x, 1, 0, 2, 20, 1, 2);
    }

    private static void twoOfTheLongestWays() {
        sentence("TWO: a long");
        LoafLetters x = Due.laid("w1,0,0,0;w0,0,0,0;c9,6;c9,6;c7,6;c3,6;");
        twoAre(x, 0, 0, 1, 0, 1999999L, 1000000000000L);
        twoAre(x, 1, 0, 1, 20, 999999999999L, 1000000000000L);
        // 729 and 117649 of a million: 999271 * 882351 are lost.
        twoAre(x, 0, 2, 3, 0, 118292233879L, 1000000000000L);
    }

    private static void twoUnlikeCarriers() {
        sentence("TWO: with unlike CARRIERS. Promise 21: BAD (one twice, too)");
        LoafLetters x = Due.laid("w1,0,0,0;c3,2;c3,2;c3,2;c3,2;c3,2;");
        for (int i = 0; i < 5; i++) {
            for (int j = 0; j < 5; j++) {
                due("two(0, " + i + ", " + j + ", 0, 0)", x.two(0, i, j, 0, 0), i == j ? BAD : 7399);
            }
        }
    }

    private static void twoIsBad() {
        sentence("Promise 21: above (part = 0), below (1). BAD");
        LoafLetters x = Due.laid("w1,0,0,0;w2,0,0,0;c3,2;c4,2;c5,2;c6,2;");
        Due.range("two(#, 0, 1, 0, 0)", 0, 1, w -> x.two(w, 0, 1, 0, 0));
        Due.range("two(0, #, 3, 0, 0)", 0, 2, i -> x.two(0, i, 3, 0, 0));
        Due.range("two(0, #, 0, 0, 0)", 1, 3, i -> x.two(0, i, 0, 0, 0));
        Due.range("two(0, 0, #, 0, 0)", 1, 3, j -> x.two(0, 0, j, 0, 0));
        Due.range("two(0, 3, #, 0, 0)", 0, 2, j -> x.two(0, 3, j, 0, 0));
        Due.range("two(0, 0, 1, #, 0)", 0, 20, a -> x.two(0, 0, 1, a, 0));
        Due.range("two(0, 0, 1, 0, #)", 0, 1, part -> x.two(0, 0, 1, 0, part));
    }

    // ---- promise 22

    private static void saidIs(LoafLetters x, int f, int set, int worth) {
        due("said(" + f + ", 0)", x.said(f, 0), set);
        due("said(" + f + ", 1)", x.said(f, 1), worth);
    }

    private static void saidByFlour() {
        sentence("SAID: of sets of WORDS whose FLOUR together is f or less");
        // FLOUR 2, 4, 18
        LoafLetters x = Due.laid("w1,0,0,10;w3,0,0,20;w5,3,2,40;");
        int[] flours = {0, 1, 2, 3, 4, 5, 6, 17, 18, 19, 20, 21, 22, 23, 24, 99};
        int[] sets = {0, 0, 1, 1, 2, 2, 3, 3, 4, 4, 5, 5, 6, 6, 7, 7};
        int[] worths = {0, 0, 10, 10, 20, 20, 30, 30, 40, 40, 50, 50, 60, 60, 70, 70};
        for (int i = 0; i < flours.length; i++) {
            saidIs(x, flours[i], sets[i], worths[i]);
        }
    }

    private static void saidByTheMostFlour() {
        sentence("SAID by f (0 to 99) FLOUR");
        // FLOUR 18, 17, 16, 16, 15, 15: 97 together
        String six = "w5,3,2,1;w4,3,2,1;w5,2,2,1;w3,3,2,1;w4,2,2,1;w5,3,1,1;";
        LoafLetters all = Due.laid(six + "w1,0,0,1;");
        saidIs(all, 99, 127, 7);
        saidIs(all, 98, 63, 6);
        LoafLetters more = Due.laid(six + "w2,0,0,1;");
        saidIs(more, 99, 63, 6);
        Due.range("said(#, 0)", 0, 99, f -> more.said(f, 0));
        // FLOUR 1 of a word that costs least
        saidIs(Due.laid("w0,0,0,9;"), 0, 0, 0);
        saidIs(Due.laid("w0,0,0,9;"), 1, 1, 9);
    }

    private static void saidOfMostWorth() {
        sentence("SAID: that of most worth");
        LoafLetters most = Due.laid("w0,0,0,99;w1,0,0,99;w2,0,0,99;w3,0,0,99;w4,0,0,99;w5,0,0,99;w0,1,0,99;w1,1,0,99;");
        saidIs(most, 99, 255, 792);
        saidIs(most, 28, 255, 792);
        saidIs(most, 27, 127, 693);
        LoafLetters no = Due.laid("w0,0,0,0;w1,0,0,0;");
        saidIs(no, 99, 0, 0);
        saidIs(Due.laid("w0,0,0,1;w1,0,0,1;w2,0,0,3;"), 3, 4, 3);
    }

    private static void saidOfLeastBits() {
        sentence("SAID: of several of the least bits");
        saidIs(Due.laid("w0,0,0,5;w1,0,0,5;w2,0,0,10;"), 3, 3, 10);
        saidIs(Due.laid("w2,0,0,10;w0,0,0,5;w1,0,0,5;"), 3, 1, 10);
        saidIs(Due.laid("w1,0,0,5;w0,1,0,5;w2,0,0,5;"), 3, 1, 5);
        saidIs(Due.laid("w0,0,0,0;w1,0,0,5;w2,0,0,0;"), 99, 2, 5);
    }

    private static void saidIsBad() {
        sentence("Promise 22: the set (what = 0), its worth (1). BAD");
        LoafLetters x = new LoafLetters();
        Due.range("said(#, 1)", 0, 99, f -> x.said(f, 1));
        Due.range("said(99, #)", 0, 1, what -> x.said(99, what));
    }

    // ---- promise 23

    private static void toldKnowAll() {
        sentence("TOLD: the BAKERS (bits) who know all of a set (0 to 63)");
        LoafLetters x = Due.laid("w0,0,0,0;k63;k62;k31;k3;k32;");
        int[] sets = {1, 2, 3, 4, 7, 32, 33, 34, 62, 63};
        int[] bakers = {13, 15, 13, 7, 5, 19, 1, 3, 3, 1};
        for (int i = 0; i < sets.length; i++) {
            due("told(" + sets[i] + ", 0)", x.told(sets[i], 0), bakers[i]);
        }
        Due.range("told(#, 0)", 0, 63, set -> x.told(set, 0));
        due("told(63, 0) of none", new LoafLetters().told(63, 0), 0);
    }

    private static void toldASetMayBe0() {
        sentence("Promise 23: a set may be 0");
        due("told(0, 0) of five", Due.laid("w0,0,0,0;k0;k1;k2;k4;k63;").told(0, 0), 31);
        due("told(0, 0) of one who knows none", Due.laid("w0,0,0,0;k0;").told(0, 0), 1);
        due("told(0, 1) of one who knows none", Due.laid("w0,0,0,0;k0;").told(0, 1), 0);
        due("told(0, 0) of none", new LoafLetters().told(0, 0), 0);
        due("told(0, 1) of none", new LoafLetters().told(0, 1), NONE);
    }

    private static void toldTheOnlyOne() {
        sentence("TOLD: the only one; none (there is none, or more). Promise 23: NONE");
        LoafLetters x = Due.laid("w0,0,0,0;k1;k6;k4;k8;k40;");
        int[] sets = {1, 2, 4, 6, 8, 16, 32, 40, 3, 63};
        int[] ones = {0, 1, NONE, 1, NONE, NONE, 4, 4, NONE, NONE};
        for (int i = 0; i < sets.length; i++) {
            due("told(" + sets[i] + ", 1)", x.told(sets[i], 1), ones[i]);
        }
    }

    private static void toldIsBad() {
        sentence("Promise 23: BAD");
        LoafLetters x = Due.laid("w0,0,0,0;k63;");
        Due.range("told(#, 1)", 0, 63, set -> x.told(set, 1));
        Due.range("told(63, #)", 0, 1, what -> x.told(63, what));
        LoafLetters none = new LoafLetters();
        Due.range("told(#, 1) of no BAKERS", 0, 63, set -> none.told(set, 1));
    }

    // ---- promise 24

    private static void monthIs(LoafLetters x, int z, int n, int same, int other) {
        due("month(" + z + ", " + n + ", 0)", x.month(z, n, 0), same);
        due("month(" + z + ", " + n + ", 1)", x.month(z, n, 1), other);
    }

    private static void monthOfDays() {
        sentence("A MONTH of n (1 to 30) days: on day t (0 first)");
        LoafLetters x = Due.laid(TextBoundsTest.EIGHT);
        Due.range("month(0, #, 0)", 1, 30, n -> x.month(0, n, 0));
        monthIs(x, 0, 1, 1, 0);
        monthIs(x, 0, 2, 1, 1);
        monthIs(x, 0, 29, 2, 24);
        monthIs(x, 0, 30, 2, 24);
        monthIs(x, 1, 29, 6, 20);
        monthIs(x, 1, 30, 6, 21);
    }

    private static void monthByDraws() {
        sentence("A MONTH by z (0 to 9999): DRAW being (x times x) modulo 65521");
        LoafLetters x = Due.laid(TextBoundsTest.EIGHT + "b9,9;");
        Due.range("month(#, 30, 0)", 0, 9999, z -> x.month(z, 30, 0));
        // The last x is 79360461, and its square has more than 32 bits.
        monthIs(x, 9999, 1, 0, 1);
        monthIs(x, 9999, 2, 0, 2);
        monthIs(x, 9999, 29, 17, 12);
        monthIs(x, 9999, 30, 17, 13);
        monthIs(x, 9998, 30, 14, 16);
        monthIs(x, 0, 30, 9, 21);
    }

    private static void monthAsAnotherOne() {
        sentence("A MONTH: how many are READ as their WORD; how many as another one");
        LoafLetters one = Due.laid("w0,0,0,0;");
        monthIs(one, 0, 30, 26, 0);
        monthIs(one, 9999, 30, 26, 0);
        LoafLetters two = Due.laid("w0,0,0,0;w1,0,0,0;");
        monthIs(two, 0, 30, 16, 10);
        monthIs(two, 9999, 30, 15, 11);
        monthIs(two, 9998, 1, 0, 0);
    }

    private static void monthIsBad() {
        sentence("Promise 24: as their WORD (what = 0), as another one (1). BAD");
        LoafLetters x = new LoafLetters();
        Due.range("month(#, 1, 0)", 0, 9999, z -> x.month(z, 1, 0));
        Due.range("month(9999, #, 1)", 1, 30, n -> x.month(9999, n, 1));
        Due.range("month(9999, 30, #)", 0, 1, what -> x.month(9999, 30, what));
    }

    // ---- promise 27

    private static void counts() {
        sentence("Promise 27: 0 WORDS, 1 CARRIERS, 2 BAKERS, 3 LOAVES, 4 FLOUR used, 5 that can be UNDONE, 6 KEPT, 7 bytes");
        LoafLetters least = new LoafLetters();
        int[] none = {1, 0, 0, 0, 0, 0, 0, 0};
        String text = TextBoundsTest.EIGHT + "c1,1;".repeat(5) + "k1;".repeat(5);
        LoafLetters most = Due.laid(text);
        // FLOUR of the last WORD is 4, of a SOUR one 8.
        for (int i = 0; i < 8; i++) {
            most.bake(7, 1);
        }
        most.day();
        most.keep();
        most.keep();
        Due.write(most, "k".repeat(300 - text.length()));
        int[] all = {8, 5, 5, 8, 64, 8, 2, 300};
        for (int what = 0; what < 8; what++) {
            due("count(" + what + ") of the least", least.count(what), none[what]);
            due("count(" + what + ") of the most", most.count(what), all[what]);
        }
    }

    private static void countIsBad() {
        sentence("Promise 27: BAD");
        LoafLetters x = new LoafLetters();
        Due.range("count(#)", 0, 7, x::count);
    }
}
