/** Where the document bounds a text and what it lays: 'What it is', FAULT, LAID, promises 1 to 6; a test a sentence. */
public final class TextBoundsTest {
    private static final int BAD = LoafLetters.BAD, NO = LoafLetters.NO, FULL = LoafLetters.FULL, NONE = LoafLetters.NONE;

    /** Eight words, the most there can be, in 72 bytes. */
    static final String EIGHT = "w0,0,0,1;w1,0,0,2;w2,0,0,3;w3,0,0,4;w4,0,0,5;w5,0,0,6;w0,1,0,7;w1,1,0,8;";

    public static void main(String[] args) {
        bytes300AtMost();
        text300IsReadToItsEnd();
        itemsBehindOneAnother();
        eachALetter();
        oneOrTwoFigures();
        figures();
        partedByCommas();
        endedBySemicolons();
        behindTheLastOneToo();
        seeds();
        cuts();
        filling();
        worth();
        words8AtMost();
        noTwoWordsOfOneSign();
        birds();
        mould();
        lossesWithout();
        theLastLossesCount();
        hunger();
        miles();
        carriers5AtMost();
        knowledge();
        bakers5AtMost();
        faultIsThePlace();
        theFirstFault();
        laidOfAWordAtLeast();
        laidAtFirst();
        theTextIsEmptyAtFirst();
        writeTakes1To8();
        writeTakesTheLowest();
        writeIsFull();
        wipeEmptyAndFull();
        faultOfNone();
        layLeavesNothing();
        theTextStays();
        layIsNo();
        wordIsBad();
        wordsSuchAsThereAre();
        calls512();
        Due.end("TextBoundsTest");
    }

    private static void sentence(String words) {
        Due.sentence(words);
    }

    private static void due(String call, long got, long want) {
        Due.due(call, got, want);
    }

    private static void faultIs(String text, int want) {
        due("fault() of " + text, Due.written(text).fault(), want);
    }

    // ---- what a text is

    private static void bytes300AtMost() {
        sentence("A TEXT is bytes (300 at most)");
        for (int n = 1; n <= 8; n++) {
            LoafLetters x = Due.written("k".repeat(300 - n));
            due("write(" + n + ", 0) at " + (300 - n), x.write(n, 0), 300);
            due("write(" + n + ", 0) at 300", x.write(n, 0), FULL);
            LoafLetters y = Due.written("k".repeat(301 - n));
            due("write(" + n + ", 0) at " + (301 - n), y.write(n, 0), FULL);
            due("count(7) behind FULL", y.count(7), 301 - n);
        }
    }

    private static void text300IsReadToItsEnd() {
        sentence("A TEXT is bytes (300 at most): all of them are read");
        String text = "w01,0,0,7;" + "b1,1;".repeat(57) + "b8,9;";
        LoafLetters x = Due.written(text);
        due("count(7)", x.count(7), 300);
        due("fault() of 300 bytes", x.fault(), NONE);
        due("lay() of 300 bytes", x.lay(), 1);
        due("becomes(5, 7, 0) by the last ITEM", x.becomes(5, 7, 0), 5);
        due("becomes(5, 8, 0) by the last ITEM", x.becomes(5, 8, 0), 4);
        faultIs(text.substring(0, 299), 295);
        faultIs("w1,0,0,7;" + "b1,1;".repeat(58), NONE);
        faultIs("w1,0,0,7;" + "b1,1;".repeat(58) + "k", 299);
    }

    private static void itemsBehindOneAnother() {
        sentence("ITEMS one behind the other");
        faultIs("k1;k2;", NONE);
        faultIs("k1;c1,1;b1,1;w1,0,0,1;k2;", NONE);
        for (int between = 0; between < 256; between++) {
            faultIs("k1;" + (char) between + "k2;", 3);
        }
    }

    private static void eachALetter() {
        sentence("each a letter, numbers");
        for (int letter = 0; letter < 256; letter++) {
            String numbers = "1";
            for (int n = 1; n <= 5; n++) {
                boolean told = letter == 'w' && n == 4 || (letter == 'b' || letter == 'c') && n == 2 || letter == 'k' && n == 1;
                faultIs((char) letter + numbers + ";", told ? NONE : 0);
                numbers += ",1";
            }
            faultIs((char) letter + ";", 0);
        }
    }

    private static void oneOrTwoFigures() {
        sentence("numbers (one or two figures)");
        String[] forms = {"w#,0,0,1;", "w1,#,0,1;", "w1,0,#,1;", "w1,0,0,#;", "b#,1;", "b1,#;", "c#,1;", "c1,#;", "k#;"};
        for (String form : forms) {
            faultIs(form.replace("#", ""), 0);
            faultIs(form.replace("#", "1"), NONE);
            faultIs(form.replace("#", "01"), NONE);
            faultIs(form.replace("#", "001"), 0);
            faultIs(form.replace("#", "0001"), 0);
        }
        due("worth of two figures", Due.laid("w1,0,0,07;").word(0, 1), 7);
        due("worth of two figures", Due.laid("w1,0,0,70;").word(0, 1), 70);
    }

    private static void figures() {
        sentence("figures");
        for (int sign = 0; sign < 256; sign++) {
            boolean figure = sign >= '0' && sign <= '9';
            faultIs("k" + (char) sign + ";", figure ? NONE : 0);
            faultIs("k1" + (char) sign + ";", figure ? NONE : sign == ';' ? 3 : 0);
            faultIs("k" + (char) sign + "1;", sign >= '0' && sign <= '6' ? NONE : 0);
        }
    }

    private static void partedByCommas() {
        sentence("parted by ,");
        String[] forms = {"w1#1,1,1;", "w1,1#1,1;", "w1,1,1#1;", "b1#1;", "c1#1;"};
        for (String form : forms) {
            for (int sign = 0; sign < 256; sign++) {
                faultIs(form.replace("#", "" + (char) sign), sign == ',' ? NONE : 0);
            }
            faultIs(form.replace("#", ",,"), 0);
        }
        faultIs("k,1;", 0);
        faultIs("k1,;", 0);
    }

    private static void endedBySemicolons() {
        sentence("and ;");
        String[] items = {"w1,0,0,1", "b1,1", "c1,1", "k1"};
        for (String item : items) {
            for (int sign = 0; sign < 256; sign++) {
                faultIs(item + (char) sign + "k2;", sign == ';' ? NONE : 0);
            }
            faultIs(item + ";;", item.length() + 1);
        }
    }

    private static void behindTheLastOneToo() {
        sentence("; (behind the last one, too)");
        String[] items = {"w1,0,0,15;", "b2,3;", "c1,2;", "k35;"};
        String before = "";
        for (String item : items) {
            for (int n = 1; n < item.length(); n++) {
                faultIs(before + item.substring(0, n), before.length());
            }
            before += item;
            faultIs(before, NONE);
        }
    }

    // ---- between which numbers each lies

    /** Every number of one and two figures, and the first of three, in the place of # . */
    private static void numbersFrom(int low, int high, String form) {
        for (int v = 0; v <= 100; v++) {
            boolean told = v >= low && v <= high;
            faultIs(form.replace("#", "" + v), told ? NONE : 0);
            faultIs("k1;" + form.replace("#", "" + v), told ? NONE : 3);
            if (v < 10) {
                faultIs(form.replace("#", "0" + v), told ? NONE : 0);
            }
        }
        faultIs(form.replace("#", "-1"), 0);
    }

    private static void seeds() {
        sentence("S SEEDS (0 to 5)");
        numbersFrom(0, 5, "w#,3,2,99;");
        for (int s = 0; s <= 5; s++) {
            due("word(0, 0) of " + s + " SEEDS", Due.laid("w" + s + ",0,0,0;").word(0, 0), s);
        }
    }

    private static void cuts() {
        sentence("C CUTS (0 to 3)");
        numbersFrom(0, 3, "w5,#,2,99;");
        for (int c = 0; c <= 3; c++) {
            due("word(0, 0) of " + c + " CUTS", Due.laid("w0," + c + ",0,0;").word(0, 0), 6 * c);
        }
    }

    private static void filling() {
        sentence("FILLING F (0 to 2)");
        numbersFrom(0, 2, "w5,3,#,99;");
        for (int f = 0; f <= 2; f++) {
            due("word(0, 0) of FILLING " + f, Due.laid("w0,0," + f + ",0;").word(0, 0), 24 * f);
        }
    }

    private static void worth() {
        sentence("worth V (0 to 99)");
        numbersFrom(0, 99, "w5,3,2,#;");
        for (int v = 0; v <= 99; v++) {
            due("word(0, 1) of worth " + v, Due.laid("w0,0,0," + v + ";").word(0, 1), v);
        }
    }

    private static void words8AtMost() {
        sentence("WORDS: 8 at most, 0, 1, ..");
        faultIs(EIGHT, NONE);
        faultIs(EIGHT + "w5,3,2,9;", 72);
        faultIs(EIGHT + "k1;w5,3,2,9;", 75);
        faultIs(EIGHT.substring(9) + "w5,3,2,9;", NONE);
        faultIs(EIGHT + "c1,1;c1,1;c1,1;c1,1;c1,1;k1;k1;k1;k1;k1;b1,1;", NONE);
        LoafLetters x = Due.laid(EIGHT);
        due("count(0)", x.count(0), 8);
        for (int w = 0; w < 8; w++) {
            due("word(" + w + ", 1)", x.word(w, 1), w + 1);
        }
    }

    private static void noTwoWordsOfOneSign() {
        sentence("no two of one S, C and F");
        for (int first = 0; first < 72; first++) {
            for (int second = 0; second < 72; second++) {
                faultIs(itemOf(first, 11) + itemOf(second, 22), first == second ? 10 : NONE);
            }
        }
        faultIs("w1,2,0,5;w1,1,0,5;w1,2,0,5;", 18);
        faultIs("w1,2,0,5;w01,02,00,05;", 9);
    }

    static String itemOf(int sign, int worth) {
        return "w" + sign % 6 + "," + sign / 6 % 4 + "," + sign / 24 + "," + worth + ";";
    }

    private static void birds() {
        sentence("BIRDS take a SEED each B days (1 to 9)");
        numbersFrom(1, 9, "b#,9;");
        for (int b = 1; b <= 9; b++) {
            LoafLetters x = Due.laid("w0,0,0,0;b" + b + ",9;");
            due("becomes(5, " + (b - 1) + ", 0) % 6 of B " + b, x.becomes(5, b - 1, 0) % 6, 5);
            due("becomes(5, " + b + ", 0) % 6 of B " + b, x.becomes(5, b, 0) % 6, 4);
        }
    }

    private static void mould() {
        sentence("MOULD makes a CUT each M days (1 to 9)");
        numbersFrom(1, 9, "b9,#;");
        for (int m = 1; m <= 9; m++) {
            LoafLetters x = Due.laid("w0,0,0,0;b9," + m + ";");
            due("becomes(0, " + (m - 1) + ", 0) of M " + m, x.becomes(0, m - 1, 0), 0);
            due("becomes(0, " + m + ", 0) of M " + m, x.becomes(0, m, 0), 6);
        }
    }

    private static void lossesAre(LoafLetters x, int b, int m) {
        due("SEEDS on the day ahead of B", x.becomes(5, b - 1, 0) % 6, 5);
        due("SEEDS on day B", x.becomes(5, b, 0) % 6, 4);
        due("CUTS on the day ahead of M", x.becomes(0, m - 1, 0), 0);
        due("CUTS on day M", x.becomes(0, m, 0), 6);
    }

    private static void lossesWithout() {
        sentence("2, 3 without");
        lossesAre(new LoafLetters(), 2, 3);
        LoafLetters x = Due.laid("w0,0,0,0;");
        lossesAre(x, 2, 3);
        x.wipe();
        Due.write(x, "w0,0,0,0;b7,8;");
        x.lay();
        lossesAre(x, 7, 8);
        x.wipe();
        Due.write(x, "w0,0,0,0;b4,5;");
        x.lay();
        lossesAre(x, 4, 5);
        x.wipe();
        Due.write(x, "w0,0,0,0;");
        x.lay();
        lossesAre(x, 2, 3);
        Due.write(x, "b9,9;");
        x.fault();
        x.wipe();
        Due.write(x, "w0,0,0,0;");
        x.lay();
        lossesAre(x, 2, 3);
    }

    private static void theLastLossesCount() {
        sentence("of several such the last one counts");
        lossesAre(Due.laid("w0,0,0,0;b4,5;"), 4, 5);
        lossesAre(Due.laid("b1,1;w0,0,0,0;b4,5;"), 4, 5);
        lossesAre(Due.laid("b1,1;b9,9;b3,4;w0,0,0,0;"), 3, 4);
        faultIs("b1,1;b9,9;b3,0;", 10);
    }

    private static void hunger() {
        sentence("bites in H of ten miles (0 to 9)");
        numbersFrom(0, 9, "c#,6;");
        int[] above = {1, 9, 4, 7, 3, 1, 2, 3, 1, 1};
        int[] below = {1, 10, 5, 10, 5, 2, 5, 10, 5, 10};
        for (int h = 0; h <= 9; h++) {
            LoafLetters x = Due.laid("w1,0,0,0;c" + h + ",1;");
            due("sent(0, 0, 0, 0) of H " + h, x.sent(0, 0, 0, 0), above[h]);
            due("sent(0, 0, 0, 1) of H " + h, x.sent(0, 0, 0, 1), below[h]);
        }
    }

    private static void miles() {
        sentence("goes L miles (1 to 6)");
        numbersFrom(1, 6, "c9,#;");
        int below = 1;
        for (int l = 1; l <= 6; l++) {
            below *= 10;
            due("sent(0, 0, 0, 1) of L " + l, Due.laid("w1,0,0,0;c9," + l + ";").sent(0, 0, 0, 1), below);
        }
    }

    private static void carriers5AtMost() {
        sentence("CARRIERS: 5 at most, 0, 1, ..");
        String five = "c1,1;c2,1;c3,1;c4,1;c7,1;";
        faultIs(five, NONE);
        faultIs(five + "c1,1;", 25);
        faultIs(five + "k1;c1,1;", 28);
        faultIs(five + EIGHT + "k1;k1;k1;k1;k1;", NONE);
        LoafLetters x = Due.laid("w1,0,0,0;" + five);
        due("count(1)", x.count(1), 5);
        int[] above = {9, 4, 7, 3, 3};
        for (int c = 0; c < 5; c++) {
            due("sent(0, " + c + ", 0, 0)", x.sent(0, c, 0, 0), above[c]);
        }
        due("count(1) without", new LoafLetters().count(1), 0);
    }

    private static void knowledge() {
        sentence("knows the WORDS W (bits of the first six; 0 to 63)");
        numbersFrom(0, 63, "k#;");
        for (int w = 0; w <= 63; w++) {
            LoafLetters x = Due.laid("w0,0,0,0;k" + w + ";");
            for (int bit = 0; bit < 6; bit++) {
                due("told(" + (1 << bit) + ", 0) of W " + w, x.told(1 << bit, 0), w >> bit & 1);
            }
        }
    }

    private static void bakers5AtMost() {
        sentence("BAKERS: 5 at most, 0, 1, ..");
        String five = "k1;k2;k4;k8;k16;";
        faultIs(five, NONE);
        faultIs(five + "k1;", 16);
        faultIs(five + "b1,1;k1;", 21);
        faultIs(five + EIGHT + "c1,1;c1,1;c1,1;c1,1;c1,1;", NONE);
        LoafLetters x = Due.laid("w1,0,0,0;" + five);
        due("count(2)", x.count(2), 5);
        for (int k = 0; k < 5; k++) {
            due("told(" + (1 << k) + ", 1)", x.told(1 << k, 1), k);
        }
        due("count(2) without", new LoafLetters().count(2), 0);
    }

    // ---- FAULT, LAID

    private static void faultIsThePlace() {
        sentence("FAULT: the place (from 0 on) of the first byte");
        String before = "";
        for (String item : new String[] {"", "w1,0,0,15;", "c1,2;", "k35;", "b2,3;"}) {
            before += item;
            faultIs(before + "k64;", before.length());
            faultIs(before + "w1,0,0,100;", before.length());
            faultIs(before + "?", before.length());
        }
    }

    private static void theFirstFault() {
        sentence("of the first ITEM that is not so");
        faultIs("k64;k65;", 0);
        faultIs("k1;k64;k65;w9,9,9,9;", 3);
        faultIs("w1,0,0,5;w1,0,0,5;w1,0,0,5;", 9);
        faultIs(EIGHT + "w5,3,2,9;w4,3,2,9;x", 72);
    }

    private static void laidOfAWordAtLeast() {
        sentence("LAID is a TEXT without FAULT, of a WORD at least (NO else)");
        String[] no = {"", "b1,1;", "c1,1;", "k1;", "b1,1;c1,1;k1;", "w1,0,0,5", "w1,0,0,5;k64;", "k64;w1,0,0,5;", "w1,0,0,5;w1,0,0,6;"};
        for (String text : no) {
            due("lay() of " + text, Due.written(text).lay(), NO);
        }
        due("lay() of one WORD", Due.written("w1,0,0,5;").lay(), 1);
        due("lay() of one WORD at the end", Due.written("b1,1;c1,1;k1;w1,0,0,5;").lay(), 1);
        due("lay() of eight WORDS", Due.written(EIGHT).lay(), 8);
        due("lay() of nine WORDS", Due.written(EIGHT + "w5,3,2,9;").lay(), NO);
    }

    private static void laidAtFirst() {
        sentence("at first w1,0,0,5;");
        LoafLetters x = new LoafLetters();
        LoafLetters y = Due.laid("w1,0,0,5;");
        Due.same("what is laid", Picture.valley(x), Picture.valley(y));
        due("word(0, 0)", x.word(0, 0), 1);
        due("word(0, 1)", x.word(0, 1), 5);
        due("word(1, 0)", x.word(1, 0), BAD);
    }

    // ---- promises 1 to 6

    private static void theTextIsEmptyAtFirst() {
        sentence("Promise 1: THE TEXT is empty");
        LoafLetters x = new LoafLetters();
        due("count(7)", x.count(7), 0);
        due("lay()", x.lay(), NO);
        due("wipe()", x.wipe(), 0);
        for (int what = 1; what <= 7; what++) {
            due("count(" + what + ")", x.count(what), 0);
        }
        due("undo()", x.undo(), NO);
        due("back()", x.back(), NO);
    }

    private static void writeTakes1To8() {
        sentence("Promise 2: n bytes (1 to 8). BAD");
        LoafLetters x = new LoafLetters();
        Due.range("write(#, -1)", 1, 8, n -> x.write(n, -1L));
        due("count(7) behind 1, 2, 7, 8 and eight that are BAD", x.count(7), 18);
        int length = 18;
        for (int n = 1; n <= 8; n++) {
            length += n;
            due("write(" + n + ", 0)", x.write(n, 0), length);
        }
    }

    private static void writeTakesTheLowest() {
        sentence("Promise 2: the lowest n bytes of v, the highest of these first");
        String text = "w3,1,2,47;";
        for (int n = 1; n <= 8; n++) {
            LoafLetters x = new LoafLetters();
            for (int from = 0; from < text.length(); from += n) {
                int taken = Math.min(n, text.length() - from);
                // The bytes above those that count would be a fault.
                long v = 0xeeeeeeeeeeeeeeeeL;
                for (int i = 0; i < taken; i++) {
                    v = v << 8 | text.charAt(from + i);
                }
                due("write(" + taken + ", ..)", x.write(taken, v), from + taken);
            }
            due("lay() by " + n + " bytes", x.lay(), 1);
            due("word(0, 0)", x.word(0, 0), 57);
            due("word(0, 1)", x.word(0, 1), 47);
        }
        LoafLetters high = new LoafLetters();
        high.write(1, 'k' | 128);
        Due.write(high, "1;");
        due("fault(): the highest bit of a byte counts", high.fault(), 0);
    }

    private static void writeIsFull() {
        sentence("Promise 2: FULL");
        LoafLetters x = Due.written("w1,0,0,9;" + "b1,1;".repeat(57) + "b8,9");
        due("count(7)", x.count(7), 298);
        due("write(3, ..) at 298", x.write(3, 0x3b3b3b), FULL);
        due("fault(): nothing of it was written", x.fault(), 294);
        due("write(1, ;) at 298", x.write(1, ';'), 299);
        due("fault()", x.fault(), NONE);
        due("write(2, 0) at 299", x.write(2, 0), FULL);
        due("write(9, 0) at 299", x.write(9, 0), BAD);
        due("lay()", x.lay(), 1);
        due("write(1, 0) at 299", x.write(1, 0), 300);
        due("write(1, 0) at 300", x.write(1, 0), FULL);
        due("write(8, 0) at 300", x.write(8, 0), FULL);
        due("count(7)", x.count(7), 300);
    }

    private static void wipeEmptyAndFull() {
        sentence("Promise 3: THE TEXT is empty: how long it was");
        LoafLetters x = new LoafLetters();
        due("wipe() of the empty", x.wipe(), 0);
        x.write(1, 'k');
        due("wipe() of one byte", x.wipe(), 1);
        due("wipe() again", x.wipe(), 0);
        Due.write(x, "k".repeat(300));
        due("write(1, 0) ahead of wipe()", x.write(1, 0), FULL);
        due("wipe() of the full", x.wipe(), 300);
        due("count(7)", x.count(7), 0);
        due("fault() of what was wiped", x.fault(), NONE);
        Due.write(x, "k".repeat(296));
        due("write(4, 0) behind wipe()", x.write(4, 0), 300);
    }

    private static void faultOfNone() {
        sentence("Promise 4: FAULT. NONE");
        faultIs("", NONE);
        faultIs("k", 0);
        faultIs("k0", 0);
        faultIs("k0;", NONE);
        Picture.unchanged("fault()", () -> standing("w3,0,0,1;w4,0,0,2;"), LoafLetters::fault, NONE);
        Picture.unchanged("fault()", () -> standing("w3,0,0,1;w4,0,0,2;b1,1"), LoafLetters::fault, 18);
    }

    /** A larder of three loaves, two of it undone again and one kept, and another text behind it. */
    private static LoafLetters standing(String text) {
        LoafLetters x = Due.laid("w3,2,0,30;w2,0,1,20;b3,4;c2,3;k5;");
        x.bake(0, 1);
        x.bake(1, 0);
        x.day();
        x.keep();
        x.bite(1);
        x.bake(1, 3);
        x.wipe();
        Due.write(x, text);
        return x;
    }

    private static void layLeavesNothing() {
        sentence("Promise 5: no LOAVES, no FLOUR used, nothing UNDONE, KEPT");
        LoafLetters x = standing("w5,3,2,9;w4,3,2,9;w3,3,2,9;");
        due("count(3) ahead", x.count(3), 3);
        due("count(5) ahead", x.count(5), 5);
        due("count(6) ahead", x.count(6), 1);
        due("lay()", x.lay(), 3);
        int[] counts = {3, 0, 0, 0, 0, 0, 0, 27};
        for (int what = 0; what < 8; what++) {
            due("count(" + what + ")", x.count(what), counts[what]);
        }
        due("undo()", x.undo(), NO);
        due("back()", x.back(), NO);
        due("loaf(0, 0)", x.loaf(0, 0), BAD);
    }

    private static void theTextStays() {
        sentence("Promise 5: THE TEXT stays");
        LoafLetters x = Due.written(EIGHT);
        due("lay()", x.lay(), 8);
        due("count(7)", x.count(7), 72);
        due("lay() again", x.lay(), 8);
        Due.write(x, "k5;");
        due("lay() of more", x.lay(), 8);
        due("count(2)", x.count(2), 1);
        due("wipe()", x.wipe(), 75);
        due("count(0): what is laid stays", x.count(0), 8);
    }

    private static void layIsNo() {
        sentence("Promise 5: NO");
        String[] no = {"", "b9,9;c1,1;k1;", "w5,3,2,9;w5,3,2,9;", "w5,3,2,9;b9,9;c0,1;k6;x", "w5,3,2,9"};
        for (String text : no) {
            Picture.unchanged("lay() of " + text, () -> standing(text), LoafLetters::lay, NO);
        }
    }

    private static void wordIsBad() {
        sentence("Promise 6: its SIGN (what = 0), worth (1), FLOUR (2). BAD");
        LoafLetters x = Due.laid("w5,3,2,99;");
        Due.range("word(0, #)", 0, 2, what -> x.word(0, what));
        due("word(0, 0)", x.word(0, 0), 71);
        due("word(0, 1)", x.word(0, 1), 99);
        due("word(0, 2)", x.word(0, 2), 18);
        due("word(1, 0)", x.word(1, 0), BAD);
        due("word(-1, 2)", x.word(-1, 2), BAD);
    }

    private static void wordsSuchAsThereAre() {
        sentence("WORDS: such as there are");
        for (int n = 1; n <= 8; n++) {
            LoafLetters x = Due.laid(EIGHT.substring(0, 9 * n));
            Due.range("word(#, 1) of " + n, 0, n - 1, w -> x.word(w, 1));
        }
        LoafLetters fewer = Due.laid(EIGHT);
        fewer.wipe();
        Due.write(fewer, "w5,3,2,9;");
        fewer.lay();
        due("word(1, 0) behind a shorter text", fewer.word(1, 0), BAD);
        due("bake(1, 0) behind a shorter text", fewer.bake(1, 0), BAD);
    }

    private static void calls512() {
        sentence("An object is used for at most 512 calls");
        LoafLetters x = new LoafLetters();
        x.bake(0, 0);
        Due.days(x, 510);
        due("loaf(0, 2) as the last of 512", x.loaf(0, 2), 510);
        LoafLetters y = new LoafLetters();
        for (int i = 1; i <= 511; i++) {
            due("wipe()", y.wipe(), 0);
        }
        due("write(8, 0) as the last of 512", y.write(8, 0), 8);
    }
}
