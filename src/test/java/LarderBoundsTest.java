import java.util.ArrayList;
import java.util.List;

/** Where the document bounds loaves and the larder: 'Terms', promises 7 to 12, 25 and 26; a test a sentence. */
public final class LarderBoundsTest {
    private static final int BAD = LoafLetters.BAD, NO = LoafLetters.NO, FULL = LoafLetters.FULL, NONE = LoafLetters.NONE;
    private static final int PLAIN = 0, SOUR = 1, SEALED = 2, DECOY = 3;

    /** Words of FLOUR 8, 6 and 6. */
    private static final String THREE = "w3,2,0,30;w2,0,1,20;w5,0,0,10;";

    public static void main(String[] args) {
        signs();
        flour();
        kinds();
        aDecoyHasTheNext();
        aDecoyOfTheLastHasTheFirst();
        aSourOneByHalfCut();
        seedsByBirdsCut();
        seeds0AtLeast();
        cutsByMouldCut();
        cuts3AtMost();
        bittenBehindAllItsDays();
        losesTheFirstThatItHas();
        theFillingIs0Then();
        nothingToLose();
        aSealedOneNothing();
        readNone();
        holds8Loaves();
        flourUsed();
        aDayOfNoneAndOfEight();
        thoseBehindMoveUp();
        theLast8CanBeUndone();
        onlyTheseAreUndone();
        bakedOfNoDaysAndBites();
        bakeIsBad();
        bakeIsFull();
        dayCountsThoseRead();
        biteIsBad();
        biteIsFull();
        takeIsBad();
        undoIsNo();
        loafIsBad();
        loavesSuchAsThereAre();
        kept2AtMost();
        keptAreTheLarderAndFlour();
        keptNoMoreThen();
        nothingIsUndoneThen();
        backIsNo();
        Due.end("LarderBoundsTest");
    }

    private static void sentence(String words) {
        Due.sentence(words);
    }

    private static void due(String call, long got, long want) {
        Due.due(call, got, want);
    }

    private static LoafLetters baked(String text, int w, int kind) {
        LoafLetters x = Due.laid(text);
        x.bake(w, kind);
        return x;
    }

    /** The SEEDS of loaf 0 on each day from the first on. */
    private static void seedsByDay(LoafLetters x, int... seeds) {
        for (int i = 0; i < seeds.length; i++) {
            x.day();
            due("SEEDS on day " + (i + 1), x.loaf(0, 4) % 6, seeds[i]);
        }
    }

    private static void cutsByDay(LoafLetters x, int... cuts) {
        for (int i = 0; i < cuts.length; i++) {
            x.day();
            due("CUTS on day " + (i + 1), x.loaf(0, 4) / 6 % 4, cuts[i]);
        }
    }

    private static void signsByBite(LoafLetters x, int... signs) {
        for (int i = 0; i < signs.length; i++) {
            due("bite(0)", x.bite(0), i + 1);
            due("SIGN behind bite " + (i + 1), x.loaf(0, 4), signs[i]);
        }
    }

    // ---- signs and loaves

    private static void signs() {
        sentence("A SIGN is S and 6 C and 24 F (0 to 71)");
        due("word(0, 0) of the least", Due.laid("w0,0,0,0;").word(0, 0), 0);
        due("word(0, 0) of the most", Due.laid("w5,3,2,0;").word(0, 0), 71);
        for (int sign = 0; sign < 72; sign++) {
            due("word(0, 0)", Due.laid(TextBoundsTest.itemOf(sign, 0)).word(0, 0), sign);
        }
        LoafLetters x = new LoafLetters();
        Due.range("becomes(#, 0, 0)", 0, 71, sign -> x.becomes(sign, 0, 0));
    }

    private static void flour() {
        sentence("FLOUR of a SIGN is 1 and S and 2 C and 3 F");
        String[] texts = {"w0,0,0,0;", "w1,0,0,0;", "w5,0,0,0;", "w0,1,0,0;", "w0,3,0,0;", "w0,0,1,0;", "w0,0,2,0;", "w5,3,2,0;"};
        int[] flours = {1, 2, 6, 3, 7, 4, 7, 18};
        for (int i = 0; i < texts.length; i++) {
            due("word(0, 2) of " + texts[i], Due.laid(texts[i]).word(0, 2), flours[i]);
        }
    }

    private static void kinds() {
        sentence("KIND 0 PLAIN, 1 SOUR, 2 SEALED, 3 DECOY");
        LoafLetters x = Due.laid(THREE);
        Due.range("bake(0, #)", 0, 3, kind -> x.bake(0, kind));
        due("count(3)", x.count(3), 4);
        int[] told = {0, 1, 2, 3};
        for (int i = 0; i < 4; i++) {
            due("loaf(" + i + ", 1)", x.loaf(i, 1), told[i]);
        }
    }

    private static void aDecoyHasTheNext() {
        sentence("a DECOY with that of the WORD behind it");
        LoafLetters x = Due.laid(TextBoundsTest.EIGHT);
        for (int w = 0; w < 7; w++) {
            x.bake(w, DECOY);
            due("loaf(" + w + ", 0)", x.loaf(w, 0), w);
            due("loaf(" + w + ", 4)", x.loaf(w, 4), x.word(w + 1, 0));
            due("loaf(" + w + ", 5)", x.loaf(w, 5), w + 1);
        }
    }

    private static void aDecoyOfTheLastHasTheFirst() {
        sentence("a DECOY of the last one with that of WORD 0");
        LoafLetters eight = baked(TextBoundsTest.EIGHT, 7, DECOY);
        due("loaf(0, 0)", eight.loaf(0, 0), 7);
        due("loaf(0, 4) of the last of eight", eight.loaf(0, 4), 0);
        due("loaf(0, 5)", eight.loaf(0, 5), 0);
        LoafLetters two = baked("w5,3,2,0;w1,0,0,0;", 1, DECOY);
        due("loaf(0, 4) of the last of two", two.loaf(0, 4), 71);
        LoafLetters one = baked("w4,0,0,0;", 0, DECOY);
        due("loaf(0, 4) of the only one", one.loaf(0, 4), 4);
        due("loaf(0, 5) of the only one", one.loaf(0, 5), 0);
        due("day(): it is READ as its WORD", one.day(), 1);
    }

    private static void aSourOneByHalfCut() {
        sentence("AGED by d days (a SOUR one by half as many, cut)");
        seedsByDay(baked("w5,0,0,0;b1,9;", 0, SOUR), 5, 4, 4, 3, 3, 2, 2, 1, 1, 0, 0, 0);
        seedsByDay(baked("w5,0,0,0;b1,9;", 0, PLAIN), 4, 3, 2, 1, 0, 0);
        seedsByDay(baked("w5,0,0,0;b3,9;", 0, SOUR), 5, 5, 5, 5, 5, 4, 4, 4, 4, 4, 4, 3);
        cutsByDay(baked("w5,0,0,0;b9,2;", 0, SOUR), 0, 0, 0, 1, 1, 1, 1, 2, 2, 2, 2, 3, 3, 3, 3, 3);
        LoafLetters x = baked("w5,0,0,0;b1,9;", 0, SOUR);
        Due.days(x, 3);
        due("loaf(0, 2): its days are whole", x.loaf(0, 2), 3);
        for (int kind : new int[] {SEALED, DECOY}) {
            seedsByDay(baked("w5,0,0,0;b1,9;", 0, kind), 4, 3, 2, 1, 0, 0);
        }
    }

    private static void seedsByBirdsCut() {
        sentence("d by B, cut, SEEDS less");
        for (int b = 1; b <= 9; b++) {
            LoafLetters x = baked("w5,0,0,0;b" + b + ",9;", 0, PLAIN);
            for (int taken = 1; taken <= 5; taken++) {
                Due.days(x, b - 1);
                due("SEEDS on the day ahead of " + b * taken, x.loaf(0, 4) % 6, 6 - taken);
                x.day();
                due("SEEDS on day " + b * taken, x.loaf(0, 4) % 6, 5 - taken);
            }
        }
    }

    private static void seeds0AtLeast() {
        sentence("SEEDS less (0 at least)");
        LoafLetters x = baked("w2,0,1,0;b1,9;", 0, PLAIN);
        int[] signs = {25, 24, 24, 24, 24, 24, 24, 24, 30};
        for (int i = 0; i < signs.length; i++) {
            x.day();
            due("SIGN on day " + (i + 1), x.loaf(0, 4), signs[i]);
        }
        Due.days(x, 200);
        due("SIGN on day 209", x.loaf(0, 4), 42);
        LoafLetters y = Due.laid("w0,0,0,0;b1,9;");
        due("becomes(5, 5, 0)", y.becomes(5, 5, 0), 0);
        due("becomes(5, 6, 0)", y.becomes(5, 6, 0), 0);
        due("becomes(0, 1, 0)", y.becomes(0, 1, 0), 0);
        due("becomes(1, 20, 0)", y.becomes(1, 20, 0), 12);
    }

    private static void cutsByMouldCut() {
        sentence("d by M, cut, CUTS more");
        for (int m = 1; m <= 9; m++) {
            LoafLetters x = baked("w0,0,0,0;b9," + m + ";", 0, PLAIN);
            for (int made = 1; made <= 3; made++) {
                Due.days(x, m - 1);
                due("SIGN on the day ahead of " + m * made, x.loaf(0, 4), 6 * (made - 1));
                x.day();
                due("SIGN on day " + m * made, x.loaf(0, 4), 6 * made);
            }
        }
    }

    private static void cuts3AtMost() {
        sentence("CUTS more (3 at most)");
        LoafLetters x = baked("w0,1,1,0;b9,1;", 0, PLAIN);
        cutsByDay(x, 2, 3, 3, 3, 3);
        due("SIGN on day 5: no FILLING is made of CUTS", x.loaf(0, 4), 42);
        Due.days(x, 200);
        due("SIGN on day 205", x.loaf(0, 4), 42);
        LoafLetters y = Due.laid("w0,0,0,0;b9,1;");
        due("becomes(0, 3, 0)", y.becomes(0, 3, 0), 18);
        due("becomes(0, 4, 0)", y.becomes(0, 4, 0), 18);
        due("becomes(18, 1, 0)", y.becomes(18, 1, 0), 18);
        due("becomes(66, 20, 0)", y.becomes(66, 20, 0), 66);
    }

    private static void bittenBehindAllItsDays() {
        sentence("Each time that it is BITTEN, behind all its days");
        LoafLetters seeded = baked("w1,1,0,0;b1,9;", 0, PLAIN);
        seeded.bite(0);
        due("SIGN: the SEED is bitten off", seeded.loaf(0, 4), 6);
        seeded.day();
        due("SIGN: the bird took the SEED, so the bite has the CUT", seeded.loaf(0, 4), 0);
        LoafLetters bare = baked("w0,0,0,0;b9,1;", 0, PLAIN);
        bare.bite(0);
        bare.day();
        due("SIGN: the mould's CUT is bitten off", bare.loaf(0, 4), 0);
        LoafLetters late = baked("w0,0,0,0;b9,1;", 0, PLAIN);
        late.day();
        due("SIGN ahead of the bite", late.loaf(0, 4), 6);
        late.bite(0);
        due("SIGN behind the bite", late.loaf(0, 4), 0);
    }

    private static void losesTheFirstThatItHas() {
        sentence("it loses the first that it has of its FILLING, all its SEEDS, all its CUTS");
        signsByBite(baked("w5,3,2,0;", 0, PLAIN), 23, 18, 0, 0);
        signsByBite(baked("w5,3,0,0;", 0, PLAIN), 18, 0, 0);
        signsByBite(baked("w0,3,2,0;", 0, PLAIN), 18, 0, 0);
        signsByBite(baked("w5,0,2,0;", 0, PLAIN), 5, 0, 0);
        signsByBite(baked("w1,1,1,0;", 0, SOUR), 7, 6, 0, 0);
        signsByBite(baked("w1,1,1,0;", 0, DECOY), 7, 6, 0, 0);
    }

    private static void theFillingIs0Then() {
        sentence("its FILLING (it is 0 then)");
        signsByBite(baked("w0,0,1,0;", 0, PLAIN), 0);
        signsByBite(baked("w0,0,2,0;", 0, PLAIN), 0);
        signsByBite(baked("w1,0,2,0;", 0, PLAIN), 1);
        due("becomes(48, 0, 1)", new LoafLetters().becomes(48, 0, 1), 0);
        due("becomes(47, 0, 1)", new LoafLetters().becomes(47, 0, 1), 23);
    }

    private static void nothingToLose() {
        sentence("the first that it has: it may have none");
        signsByBite(baked("w0,0,0,0;", 0, PLAIN), 0, 0, 0, 0, 0, 0, 0, 0, 0);
        due("becomes(0, 0, 3)", new LoafLetters().becomes(0, 0, 3), 0);
    }

    private static void aSealedOneNothing() {
        sentence("(a SEALED one nothing)");
        LoafLetters x = baked("w5,3,2,0;b1,9;", 0, SEALED);
        signsByBite(x, 71, 71, 71, 71, 71, 71, 71, 71, 71);
        due("bite(0) a tenth time", x.bite(0), FULL);
        x.day();
        due("SIGN: it is AGED like a PLAIN one", x.loaf(0, 4), 70);
        due("loaf(0, 3): its bites count", x.loaf(0, 3), 9);
    }

    private static void readNone() {
        sentence("READ is the WORD of the SIGN that it has then; none");
        LoafLetters x = baked("w5,0,0,0;w4,0,0,0;w2,0,0,0;b1,9;", 0, PLAIN);
        int[] read = {1, NONE, 2, NONE, NONE};
        due("loaf(0, 5) on day 0", x.loaf(0, 5), 0);
        for (int i = 0; i < read.length; i++) {
            x.day();
            due("loaf(0, 5) on day " + (i + 1), x.loaf(0, 5), read[i]);
        }
        LoafLetters last = baked(TextBoundsTest.EIGHT, 7, PLAIN);
        due("loaf(0, 5) of the last WORD", last.loaf(0, 5), 7);
    }

    // ---- the larder

    private static void holds8Loaves() {
        sentence("THE LARDER holds 8 LOAVES at most");
        LoafLetters x = Due.laid(THREE);
        for (int i = 1; i <= 8; i++) {
            due("bake(0, 0)", x.bake(0, PLAIN), i);
        }
        due("bake(0, 0) of a ninth", x.bake(0, PLAIN), FULL);
        due("count(3)", x.count(3), 8);
        x.take(3);
        due("bake(1, 0) where one was taken", x.bake(1, PLAIN), 8);
        due("bake(1, 0) of a ninth", x.bake(1, PLAIN), FULL);
        x.undo();
        due("bake(2, 0) where one was undone", x.bake(2, PLAIN), 8);
        due("loaf(7, 0)", x.loaf(7, 0), 2);
    }

    private static void flourUsed() {
        sentence("FLOUR of the SIGN with which it is (twice that of a SOUR one, 2 more of a SEALED one) is used");
        String text = "w0,0,0,0;w5,3,2,0;";
        int[] least = {1, 2, 3, 18};
        int[] most = {18, 36, 20, 1};
        for (int kind = 0; kind < 4; kind++) {
            due("count(4) of the least, kind " + kind, baked(text, 0, kind).count(4), least[kind]);
            due("count(4) of the most, kind " + kind, baked(text, 1, kind).count(4), most[kind]);
        }
        LoafLetters x = Due.laid(text);
        for (int i = 0; i < 8; i++) {
            x.bake(1, SOUR);
        }
        due("count(4) of eight", x.count(4), 288);
        due("bake(1, 1) of a ninth", x.bake(1, SOUR), FULL);
        due("count(4) behind FULL", x.count(4), 288);
        x.take(0);
        due("count(4) behind take(0): it was used", x.count(4), 288);
        x.bake(0, PLAIN);
        due("count(4)", x.count(4), 289);
        x.undo();
        due("count(4) behind undo()", x.count(4), 288);
    }

    private static void aDayOfNoneAndOfEight() {
        sentence("a day goes by");
        LoafLetters x = Due.laid("w5,0,0,0;b9,9;");
        due("day() of none", x.day(), 0);
        due("count(5): it can be UNDONE", x.count(5), 1);
        for (int i = 1; i <= 8; i++) {
            x.bake(0, PLAIN);
            due("day() of " + i, x.day(), i);
        }
        for (int i = 0; i < 8; i++) {
            due("loaf(" + i + ", 2)", x.loaf(i, 2), 8 - i);
        }
    }

    private static LoafLetters eightLoaves() {
        LoafLetters x = Due.laid(TextBoundsTest.EIGHT);
        for (int i = 0; i < 8; i++) {
            x.bake(i, i % 4);
            Due.bites(x, i, i);
            x.day();
        }
        return x;
    }

    private static void thoseBehindMoveUp() {
        sentence("one is taken away (those behind it move up)");
        for (int gone = 0; gone < 8; gone++) {
            LoafLetters before = eightLoaves();
            LoafLetters x = eightLoaves();
            due("take(" + gone + ")", x.take(gone), gone);
            due("count(3)", x.count(3), 7);
            for (int i = 0; i < 7; i++) {
                for (int what = 0; what <= 5; what++) {
                    due("loaf(" + i + ", " + what + ") behind take(" + gone + ")", x.loaf(i, what), before.loaf(i < gone ? i : i + 1, what));
                }
            }
            due("loaf(7, 0)", x.loaf(7, 0), BAD);
        }
        LoafLetters one = baked(THREE, 2, PLAIN);
        due("take(0) of the only one", one.take(0), 2);
        due("count(3)", one.count(3), 0);
        due("take(0) of none", one.take(0), BAD);
    }

    /** Nine of all kinds, of which the last eight can be undone. */
    private static void step(LoafLetters x, int n) {
        switch (n) {
            case 0 -> x.bake(0, SOUR);
            case 1 -> x.bake(1, SEALED);
            case 2, 6 -> x.day();
            case 3 -> x.bite(0);
            case 4 -> x.take(1);
            case 5 -> x.bake(2, DECOY);
            case 7 -> x.bite(1);
            default -> x.take(0);
        }
    }

    private static void theLast8CanBeUndone() {
        sentence("UNDONE is the latest of these (the last 8 can be)");
        for (int steps = 0; steps <= 9; steps++) {
            LoafLetters x = Due.laid(THREE);
            List<String> seen = new ArrayList<>();
            for (int n = 0; n < steps; n++) {
                seen.add(Picture.larder(x));
                step(x, n);
                due("count(5) behind " + (n + 1), x.count(5), Math.min(n + 1, 8));
            }
            for (int n = steps - 1; n >= Math.max(steps - 8, 0); n--) {
                due("undo() of " + (n + 1), x.undo(), n - Math.max(steps - 8, 0));
                Due.same("what stands behind undo() of " + (n + 1), Picture.larder(x), seen.get(n));
            }
            String left = Picture.larder(x);
            due("undo() of no more", x.undo(), NO);
            Due.same("what stands behind NO", Picture.larder(x), left);
        }
        LoafLetters y = baked(THREE, 0, PLAIN);
        Due.days(y, 30);
        for (int i = 7; i >= 5; i--) {
            due("undo()", y.undo(), i);
        }
        Due.days(y, 2);
        due("count(5): those undone are gone", y.count(5), 7);
        Due.days(y, 2);
        due("count(5)", y.count(5), 8);
        for (int i = 7; i >= 0; i--) {
            due("undo()", y.undo(), i);
        }
        due("undo() of no more", y.undo(), NO);
        due("loaf(0, 2)", y.loaf(0, 2), 23);
    }

    private static void onlyTheseAreUndone() {
        sentence("UNDONE is the latest of these: no other call is");
        LoafLetters x = baked(THREE + "c1,1;k1;", 0, PLAIN);
        x.keep();
        x.wipe();
        x.write(1, 'k');
        x.fault();
        x.lay();
        x.bake(3, 0);
        x.bite(1);
        x.take(1);
        x.month(0, 30, 0);
        due("count(5)", x.count(5), 1);
        due("undo()", x.undo(), 0);
        due("count(3)", x.count(3), 0);
        due("count(6)", x.count(6), 1);
        due("count(7)", x.count(7), 1);
    }

    // ---- promises 7 to 12

    private static void bakedOfNoDaysAndBites() {
        sentence("Promise 7: A LOAF of a WORD, of a KIND, is baked: where an older one stood, too");
        LoafLetters x = baked(THREE, 0, PLAIN);
        x.day();
        x.bite(0);
        x.take(0);
        due("bake(1, 1)", x.bake(1, SOUR), 1);
        int[] fresh = {1, SOUR, 0, 0, 26, 1};
        for (int what = 0; what <= 5; what++) {
            due("loaf(0, " + what + ") where one was taken", x.loaf(0, what), fresh[what]);
        }
        x.day();
        x.bite(0);
        Due.bites(x, 0, 2);
        for (int i = 0; i < 5; i++) {
            x.undo();
        }
        due("bake(2, 2)", x.bake(2, SEALED), 1);
        int[] again = {2, SEALED, 0, 0, 5, 2};
        for (int what = 0; what <= 5; what++) {
            due("loaf(0, " + what + ") where one was undone", x.loaf(0, what), again[what]);
        }
    }

    private static void bakeIsBad() {
        sentence("Promise 7: BAD");
        LoafLetters x = Due.laid(THREE);
        Due.range("bake(#, 0)", 0, 2, w -> x.bake(w, PLAIN));
        due("count(3) behind four", x.count(3), 4);
        due("count(5) behind four", x.count(5), 4);
        Picture.unchanged("bake(3, 0)", LarderBoundsTest::standing, y -> y.bake(3, 0), BAD);
        Picture.unchanged("bake(-1, 0)", LarderBoundsTest::standing, y -> y.bake(-1, 0), BAD);
        Picture.unchanged("bake(0, 4)", LarderBoundsTest::standing, y -> y.bake(0, 4), BAD);
        Picture.unchanged("bake(0, -1)", LarderBoundsTest::standing, y -> y.bake(0, -1), BAD);
    }

    private static LoafLetters standing() {
        LoafLetters x = Due.laid(THREE);
        x.bake(0, SOUR);
        x.keep();
        x.bake(1, PLAIN);
        x.day();
        x.bite(1);
        return x;
    }

    private static LoafLetters full() {
        LoafLetters x = Due.laid(THREE);
        for (int i = 0; i < 8; i++) {
            x.bake(i % 3, i % 4);
        }
        Due.bites(x, 2, 9);
        x.keep();
        x.day();
        x.keep();
        return x;
    }

    private static void bakeIsFull() {
        sentence("Promise 7: FULL");
        for (int kind = 0; kind < 4; kind++) {
            int each = kind;
            Picture.unchanged("bake(2, " + each + ")", LarderBoundsTest::full, y -> y.bake(2, each), FULL);
        }
        LoafLetters x = full();
        x.take(0);
        due("bake(2, 0) of seven", x.bake(2, PLAIN), 8);
    }

    private static void dayCountsThoseRead() {
        sentence("Promise 8: how many LOAVES are READ as their WORD then");
        // On day 2 the DECOY of WORD 0 comes to be WORD 0, the PLAIN one of WORD 1 WORD 0; the SOUR one waits for day 4.
        LoafLetters x = Due.laid("w3,0,0,1;w4,0,0,1;b2,9;");
        x.bake(0, DECOY);
        x.bake(1, PLAIN);
        x.bake(1, SOUR);
        int[] read = {2, 2, 2, 0};
        for (int i = 0; i < read.length; i++) {
            due("day() " + (i + 1), x.day(), read[i]);
        }
        due("undo()", x.undo(), 6);
        due("day() 4 again", x.day(), 0);
        due("day() of none", new LoafLetters().day(), 0);
        LoafLetters bare = Due.laid("w0,0,0,0;b9,9;");
        due("day() of none, where WORD 0 has no SEEDS, CUTS, FILLING", bare.day(), 0);
        bare.bake(0, PLAIN);
        due("day() of one", bare.day(), 1);
    }

    private static void biteIsBad() {
        sentence("Promise 9: BAD");
        LoafLetters x = standing();
        Due.range("bite(#)", 0, 1, x::bite);
        due("bite(0) of none", Due.laid(THREE).bite(0), BAD);
        Picture.unchanged("bite(2)", LarderBoundsTest::standing, y -> y.bite(2), BAD);
        Picture.unchanged("bite(-1)", LarderBoundsTest::standing, y -> y.bite(-1), BAD);
        Picture.unchanged("bite(8)", LarderBoundsTest::full, y -> y.bite(8), BAD);
    }

    private static void biteIsFull() {
        sentence("Promise 9: how often it was; FULL: 9 times");
        for (int kind = 0; kind < 4; kind++) {
            LoafLetters x = baked(THREE, 0, kind);
            x.bake(0, kind);
            for (int n = 1; n <= 9; n++) {
                due("bite(0)", x.bite(0), n);
            }
            due("bite(0) a tenth time", x.bite(0), FULL);
            due("loaf(0, 3)", x.loaf(0, 3), 9);
            due("bite(1) of another one", x.bite(1), 1);
            x.undo();
            x.undo();
            due("loaf(0, 3) behind undo()", x.loaf(0, 3), 8);
            due("bite(0) behind undo()", x.bite(0), 9);
            due("bite(0) a tenth time", x.bite(0), FULL);
        }
        Picture.unchanged("bite(2)", LarderBoundsTest::full, y -> y.bite(2), FULL);
    }

    private static void takeIsBad() {
        sentence("Promise 10: its WORD. BAD");
        Due.range("take(#)", 0, 1, i -> standing().take(i));
        due("take(0) of none", Due.laid(THREE).take(0), BAD);
        due("take(7) of eight", full().take(7), 1);
        Picture.unchanged("take(2)", LarderBoundsTest::standing, y -> y.take(2), BAD);
        Picture.unchanged("take(-1)", LarderBoundsTest::standing, y -> y.take(-1), BAD);
        Picture.unchanged("take(8)", LarderBoundsTest::full, y -> y.take(8), BAD);
    }

    private static void undoIsNo() {
        sentence("Promise 11: how many more can be. NO");
        Picture.unchanged("undo()", LoafLetters::new, LoafLetters::undo, NO);
        LoafLetters x = new LoafLetters();
        x.day();
        due("undo() of one", x.undo(), 0);
        due("undo() of none", x.undo(), NO);
        Picture.unchanged("undo()", () -> {
            LoafLetters y = full();
            for (int i = 0; i < 8; i++) {
                y.undo();
            }
            return y;
        }, LoafLetters::undo, NO);
    }

    private static void loafIsBad() {
        sentence("Promise 12: WORD (what = 0), KIND (1), days (2), bites (3), the SIGN it has (4), READ (5; NONE). BAD");
        LoafLetters x = standing();
        Due.range("loaf(0, #)", 0, 5, what -> x.loaf(0, what));
        int[] sour = {0, SOUR, 1, 0, 15, 0};
        int[] plain = {1, PLAIN, 1, 1, 2, NONE};
        for (int what = 0; what <= 5; what++) {
            due("loaf(0, " + what + ")", x.loaf(0, what), sour[what]);
            due("loaf(1, " + what + ")", x.loaf(1, what), plain[what]);
            due("loaf(2, " + what + ")", x.loaf(2, what), BAD);
            due("loaf(0, " + what + ") of none", new LoafLetters().loaf(0, what), BAD);
        }
    }

    private static void loavesSuchAsThereAre() {
        sentence("LOAVES: such as there are");
        LoafLetters x = Due.laid(THREE);
        for (int n = 0; n <= 8; n++) {
            due("loaf(" + n + ", 0) of " + n, x.loaf(n, 0), BAD);
            due("bite(" + n + ") of " + n, x.bite(n), BAD);
            due("take(" + n + ") of " + n, x.take(n), BAD);
            if (n > 0) {
                due("loaf(" + (n - 1) + ", 1) of " + n, x.loaf(n - 1, 1), SEALED);
            }
            x.bake(0, SEALED);
        }
        x.take(0);
        due("loaf(7, 0) behind take(0)", x.loaf(7, 0), BAD);
        x.undo();
        due("loaf(7, 0) behind undo()", x.loaf(7, 0), 0);
        x.undo();
        due("loaf(7, 0) behind undo() of its bake", x.loaf(7, 0), BAD);
    }

    // ---- promises 25, 26

    private static void kept2AtMost() {
        sentence("KEPT are THE LARDER, FLOUR: 2 at most. Promise 25: FULL");
        LoafLetters x = standing();
        x.back();
        due("keep()", x.keep(), 1);
        due("keep()", x.keep(), 2);
        due("keep() of a third", x.keep(), FULL);
        due("count(6)", x.count(6), 2);
        due("back()", x.back(), 1);
        due("keep() behind back()", x.keep(), 2);
        due("keep() of a third", x.keep(), FULL);
        Picture.unchanged("keep()", LarderBoundsTest::full, LoafLetters::keep, FULL);
    }

    private static void keptAreTheLarderAndFlour() {
        sentence("KEPT are THE LARDER, FLOUR");
        LoafLetters x = standing();
        String first = Picture.larder(x);
        x.keep();
        x.take(0);
        x.bake(2, SEALED);
        Due.days(x, 3);
        x.wipe();
        Due.write(x, "k1;");
        due("back()", x.back(), 1);
        Due.same("what stands behind back()", Picture.larder(x), first);
        due("count(7): THE TEXT is none of it", x.count(7), 3);
        LoafLetters empty = Due.laid(THREE);
        due("keep() of the empty", empty.keep(), 1);
        empty.bake(0, PLAIN);
        due("back()", empty.back(), 0);
        Due.same("what stands behind back()", Picture.larder(empty), "loaves flour 0");
        LoafLetters eight = full();
        eight.back();
        eight.back();
        String kept = Picture.larder(eight);
        eight.keep();
        for (int i = 0; i < 8; i++) {
            eight.take(0);
        }
        eight.back();
        Due.same("what stands behind back() to eight", Picture.larder(eight), kept);
    }

    private static void keptNoMoreThen() {
        sentence("Promise 26: As KEPT last (it is KEPT no more then): how many are left");
        LoafLetters x = Due.laid(THREE);
        x.bake(0, PLAIN);
        x.keep();
        x.bake(1, PLAIN);
        x.keep();
        x.bake(2, PLAIN);
        due("back() to the last", x.back(), 1);
        due("count(3)", x.count(3), 2);
        due("count(6)", x.count(6), 1);
        due("back() to the first", x.back(), 0);
        due("count(3)", x.count(3), 1);
        due("count(4)", x.count(4), 8);
        due("back() of no more", x.back(), NO);
        due("count(3)", x.count(3), 1);
    }

    private static void nothingIsUndoneThen() {
        sentence("Promise 26: nothing is UNDONE then");
        LoafLetters x = standing();
        due("count(5) ahead", x.count(5), 4);
        x.back();
        due("count(5)", x.count(5), 0);
        due("undo()", x.undo(), NO);
        x.day();
        due("count(5) behind a day", x.count(5), 1);
        due("undo()", x.undo(), 0);
        due("undo() of no more", x.undo(), NO);
        due("loaf(0, 2)", x.loaf(0, 2), 0);
    }

    private static void backIsNo() {
        sentence("Promise 26: NO");
        Picture.unchanged("back()", LoafLetters::new, LoafLetters::back, NO);
        Picture.unchanged("back()", () -> {
            LoafLetters y = standing();
            y.back();
            y.day();
            y.bake(2, PLAIN);
            return y;
        }, LoafLetters::back, NO);
    }
}
