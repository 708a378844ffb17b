/** Each promise by hand: ordinary inputs, the edges that the document names, wrong inputs. */
public final class PromisesTest {
    private static final int BAD = LoafLetters.BAD, NO = LoafLetters.NO, FULL = LoafLetters.FULL, NONE = LoafLetters.NONE;
    private static final int MOST = Integer.MAX_VALUE, LEAST = Integer.MIN_VALUE;

    /** Words of signs 15 (3 seeds, 2 cuts), 26 (2 seeds, filling 1), 5 (5 seeds). */
    private static final String THREE = "w3,2,0,30;w2,0,1,20;w5,0,0,10;";

    public static void main(String[] args) {
        aNewObject();
        write();
        wipe();
        fault();
        faultOfTooMany();
        lay();
        layOfLosses();
        word();
        bake();
        bakedFlour();
        day();
        dayOfKinds();
        bite();
        take();
        undo();
        loaf();
        becomes();
        mayBe();
        can();
        was();
        half();
        code();
        codeOfSeveral();
        sent();
        whom();
        two();
        said();
        told();
        month();
        keep();
        back();
        count();
        Due.end("PromisesTest");
    }

    private static void due(String call, long got, long want) {
        Due.due(call, got, want);
    }

    private static void aNewObject() {
        LoafLetters x = new LoafLetters();
        for (int what = 0; what <= 7; what++) {
            due("1 count(" + what + ")", x.count(what), what == 0 ? 1 : 0);
        }
        due("1 word(0, 0)", x.word(0, 0), 1);
        due("1 word(0, 1)", x.word(0, 1), 5);
        due("1 becomes(5, 1, 0)", x.becomes(5, 1, 0), 5);
        due("1 becomes(5, 2, 0)", x.becomes(5, 2, 0), 4);
        due("1 becomes(0, 2, 0)", x.becomes(0, 2, 0), 0);
        due("1 becomes(0, 3, 0)", x.becomes(0, 3, 0), 6);
        due("1 undo()", x.undo(), NO);
        due("1 back()", x.back(), NO);
        due("1 fault()", x.fault(), NONE);
        due("1 lay()", x.lay(), NO);
    }

    private static void write() {
        LoafLetters x = new LoafLetters();
        due("2 write(0, 0)", x.write(0, 0), BAD);
        due("2 write(9, 0)", x.write(9, 0), BAD);
        due("2 write(-1, 0)", x.write(-1, 0), BAD);
        due("2 write(MOST, 0)", x.write(MOST, 0), BAD);
        due("2 write(LEAST, 0)", x.write(LEAST, 0), BAD);
        due("2 write of 2 bytes of 8", x.write(2, 0x7878787878787700L | 'w' << 8 | '4'), 2);
        due("2 write of 7 bytes of 8", x.write(7, (long) 'x' << 56 | 0x2c312c312c3737L), 9);
        due("2 write(1, ;)", x.write(1, -256L | ';'), 10);
        due("2 fault()", x.fault(), NONE);
        due("2 lay()", x.lay(), 1);
        due("2 word(0, 0): w4,1,1,77;", x.word(0, 0), 34);
        due("2 word(0, 1)", x.word(0, 1), 77);
        x.wipe();
        for (int i = 1; i <= 37; i++) {
            due("2 write(8, ..)", x.write(8, -1L), 8 * i);
        }
        due("2 write(5, 0) at 296", x.write(5, 0), FULL);
        due("2 write(9, 0) at 296", x.write(9, 0), BAD);
        due("2 count(7) behind FULL", x.count(7), 296);
        due("2 write(4, 0) at 296", x.write(4, 0), 300);
        due("2 write(1, 0) at 300", x.write(1, 0), FULL);
        due("2 write(0, 0) at 300", x.write(0, 0), BAD);
    }

    private static void wipe() {
        LoafLetters x = new LoafLetters();
        due("3 wipe() of nothing", x.wipe(), 0);
        Due.write(x, "k1;x");
        due("3 wipe()", x.wipe(), 4);
        due("3 count(7)", x.count(7), 0);
        due("3 fault() of what was wiped", x.fault(), NONE);
        Due.write(x, THREE);
        x.lay();
        due("3 wipe() of what is laid", x.wipe(), THREE.length());
        due("3 count(0): laid stays", x.count(0), 3);
    }

    private static void faultIs(String text, int want) {
        LoafLetters x = new LoafLetters();
        Due.write(x, text);
        due("4 fault() of " + text, x.fault(), want);
        due("4 count(7) behind fault() of " + text, x.count(7), text.length());
        due("4 count(0) behind fault() of " + text, x.count(0), 1);
        due("4 word(0, 1) behind fault() of " + text, x.word(0, 1), 5);
    }

    private static void fault() {
        String[] good = {"", "w0,0,0,0;", "w5,3,2,99;", "w05,03,02,09;", "w00,00,00,00;", "b1,1;", "b9,9;", "b1,1;b9,9;b05,02;",
            "c0,1;", "c9,6;", "c09,06;", "c1,1;c1,1;", "k0;", "k63;", "k7;k7;", "k1;c1,1;b1,1;w1,0,0,1;", "w1,0,0,7;w0,1,0,7;w0,0,1,7;"};
        for (String text : good) {
            faultIs(text, NONE);
        }
        String[] bad = {"w6,0,0,0;", "w0,4,0,0;", "w0,0,3,0;", "w0,0,0,100;", "w0,0,0,000;", "w000,0,0,0;", "w0,0,0;", "w0,0,0,0,0;",
            "w0,0,0,0", "w0,0,0,", "w0,0", "w", "w;", "w,0,0,0;", "w0,,0,0;", "w0,0,0,;", "w0;0,0,0;", "w0,0,0,0,", "w-1,0,0,0;",
            "w 0,0,0,0;", "w0 ,0,0,0;", "W0,0,0,0;", " w0,0,0,0;", "ww0,0,0,0;", "w0,0,0,a;", "w0,0,0,0:", "w0,0,0,/;", "w10,0,0,0;",
            "b0,1;", "b1,0;", "b10,1;", "b1,10;", "b1;", "b1,1,1;", "b;", "b1,1", "c10,1;", "c1,0;", "c1,7;", "c1;", "c1,1,1;", "c1,1",
            "k64;", "k99;", "k100;", "k1,1;", "k;", "k", "k1", "a1;", "x1;", "1;", ";", ",", "\u0000", "\u00f71,0,0,1;", "k\u00b1;", "\u00ff"};
        for (String text : bad) {
            faultIs(text, 0);
            faultIs("k1;" + text, 3);
            faultIs("w5,3,2,1;" + text, 9);
        }
        faultIs("w1,0,0,1;w1,0,0,2;", 9);
        faultIs("w1,0,0,1;w01,00,0,1;k1;", 9);
        faultIs("w1,0,0,1;k1;;", 12);
        faultIs("k1;k64;k65;", 3);
        faultIs("k1; k2;", 3);
    }

    private static void faultOfTooMany() {
        StringBuilder words = new StringBuilder();
        for (int i = 0; i < 8; i++) {
            words.append("w").append(i % 6).append(",").append(i / 6).append(",0,1;");
        }
        faultIs(words.toString(), NONE);
        faultIs(words + "k1;b1,2;c1,2;", NONE);
        faultIs(words + "w0,0,1,1;", 72);
        faultIs("c0,1;c0,1;c0,1;c0,1;c0,1;", NONE);
        faultIs("c0,1;c0,1;c0,1;c0,1;c0,1;c0,1;", 25);
        faultIs("k0;k0;k0;k0;k0;", NONE);
        faultIs("k0;k0;k0;k0;k0;k0;", 15);
        faultIs("k0;".repeat(5) + "b1,1;".repeat(56) + "b2,2", 295);
        faultIs("b1,1;".repeat(60), NONE);
    }

    private static void lay() {
        LoafLetters x = Due.laid(THREE + "c1,2;k3;");
        x.bake(0, 0);
        x.keep();
        x.day();
        Due.write(x, "x");
        due("5 lay() with a FAULT", x.lay(), NO);
        due("5 count(3) behind NO", x.count(3), 1);
        due("5 count(5) behind NO", x.count(5), 2);
        due("5 count(6) behind NO", x.count(6), 1);
        due("5 count(0) behind NO", x.count(0), 3);
        x.wipe();
        Due.write(x, "b1,1;c1,1;k1;");
        due("5 lay() without a WORD", x.lay(), NO);
        due("5 count(1) behind NO", x.count(1), 1);
        due("5 becomes(5, 1, 0) behind NO", x.becomes(5, 1, 0), 5);
        Due.write(x, "w0,1,0,8;w0,2,0,9;");
        due("5 lay()", x.lay(), 2);
        due("5 count(0)", x.count(0), 2);
        due("5 count(3)", x.count(3), 0);
        due("5 count(4)", x.count(4), 0);
        due("5 count(5)", x.count(5), 0);
        due("5 count(6)", x.count(6), 0);
        due("5 count(7)", x.count(7), 31);
        due("5 undo()", x.undo(), NO);
        due("5 back()", x.back(), NO);
        due("5 word(1, 0)", x.word(1, 0), 12);
        due("5 lay() again", x.lay(), 2);
    }

    private static void layOfLosses() {
        LoafLetters x = Due.laid("b1,1;w0,0,0,0;b4,5;");
        due("5 becomes(5, 3, 0): the last b counts", x.becomes(5, 3, 0), 5);
        due("5 becomes(5, 4, 0)", x.becomes(5, 4, 0), 4);
        due("5 becomes(5, 5, 0)", x.becomes(5, 5, 0), 10);
        x.wipe();
        Due.write(x, "w0,0,0,0;");
        x.lay();
        due("5 becomes(5, 2, 0) without b", x.becomes(5, 2, 0), 4);
        due("5 becomes(5, 3, 0) without b", x.becomes(5, 3, 0), 10);
        due("5 fault() leaves what is laid", x.fault(), NONE);
        Due.write(x, "b1,1;");
        x.fault();
        due("5 becomes(5, 2, 0) behind fault()", x.becomes(5, 2, 0), 4);
    }

    private static void word() {
        LoafLetters x = Due.laid("w3,2,1,99;w0,0,0,0;w5,3,2,7;");
        int[] signs = {39, 0, 71};
        int[] worths = {99, 0, 7};
        int[] flours = {11, 1, 18};
        for (int w = 0; w < 3; w++) {
            due("6 word(" + w + ", 0)", x.word(w, 0), signs[w]);
            due("6 word(" + w + ", 1)", x.word(w, 1), worths[w]);
            due("6 word(" + w + ", 2)", x.word(w, 2), flours[w]);
        }
        LoafLetters filled = Due.laid("w0,0,1,0;w0,0,2,0;w0,3,0,0;");
        due("6 word(0, 0) of a filling alone", filled.word(0, 0), 24);
        due("6 word(0, 2) of a filling alone", filled.word(0, 2), 4);
        due("6 word(1, 2) of a filling alone", filled.word(1, 2), 7);
        due("6 word(2, 2) of cuts alone", filled.word(2, 2), 7);
        due("6 word(3, 0)", x.word(3, 0), BAD);
        due("6 word(-1, 0)", x.word(-1, 0), BAD);
        due("6 word(0, 3)", x.word(0, 3), BAD);
        due("6 word(0, -1)", x.word(0, -1), BAD);
        due("6 word(MOST, MOST)", x.word(MOST, MOST), BAD);
        due("6 word(LEAST, LEAST)", x.word(LEAST, LEAST), BAD);
    }

    private static void bake() {
        LoafLetters x = Due.laid(THREE);
        due("7 bake(3, 0)", x.bake(3, 0), BAD);
        due("7 bake(-1, 0)", x.bake(-1, 0), BAD);
        due("7 bake(0, 4)", x.bake(0, 4), BAD);
        due("7 bake(0, -1)", x.bake(0, -1), BAD);
        due("7 count(5) behind BAD", x.count(5), 0);
        for (int i = 0; i < 8; i++) {
            due("7 bake(" + i % 3 + ", " + i % 4 + ")", x.bake(i % 3, i % 4), i + 1);
        }
        due("7 bake(0, 0) of a ninth", x.bake(0, 0), FULL);
        due("7 bake(3, 0) of a ninth", x.bake(3, 0), BAD);
        due("7 bake(0, 4) of a ninth", x.bake(0, 4), BAD);
        due("7 count(5) behind FULL", x.count(5), 8);
        for (int i = 0; i < 8; i++) {
            due("7 loaf(" + i + ", 0)", x.loaf(i, 0), i % 3);
            due("7 loaf(" + i + ", 1)", x.loaf(i, 1), i % 4);
        }
    }

    private static void bakedFlour() {
        LoafLetters x = Due.laid(THREE);
        // FLOUR of the three: 8, 6, 6.
        int[] flours = {8, 16, 10, 6};
        int sum = 0;
        for (int kind = 0; kind < 4; kind++) {
            x.bake(0, kind);
            sum += flours[kind];
            due("7 count(4) behind bake(0, " + kind + ")", x.count(4), sum);
        }
        due("7 loaf(3, 4): a DECOY of 0 has the SIGN of 1", x.loaf(3, 4), 26);
        due("7 loaf(3, 5)", x.loaf(3, 5), 1);
        x.bake(2, 3);
        due("7 count(4) behind a DECOY of the last", x.count(4), sum + 8);
        due("7 loaf(4, 4): a DECOY of the last has that of 0", x.loaf(4, 4), 15);
        due("7 loaf(4, 0)", x.loaf(4, 0), 2);
        x.take(0);
        due("7 count(4) behind take(0)", x.count(4), sum + 8);
    }

    private static void day() {
        LoafLetters x = new LoafLetters();
        due("8 day() of no LOAVES", x.day(), 0);
        due("8 count(5)", x.count(5), 1);
        due("8 bake", x.bake(0, 0), 1);
        due("8 day(), 1", x.day(), 1);
        x.bake(0, 0);
        due("8 day(), 2 and 1", x.day(), 1);
        due("8 loaf(0, 2)", x.loaf(0, 2), 2);
        due("8 loaf(1, 2)", x.loaf(1, 2), 1);
        due("8 day(), 3 and 2", x.day(), 0);
    }

    private static void dayOfKinds() {
        // A DECOY of word 0 is baked as word 1, and a bird makes it word 0.
        LoafLetters x = Due.laid("w3,0,0,1;w4,0,0,1;b2,9;");
        x.bake(0, 3);
        x.bake(1, 0);
        x.bake(1, 1);
        x.bake(1, 2);
        due("8 day() 1", x.day(), 3);
        due("8 day() 2", x.day(), 2);
        due("8 loaf(0, 5)", x.loaf(0, 5), 0);
        due("8 loaf(1, 5)", x.loaf(1, 5), 0);
        due("8 loaf(3, 5)", x.loaf(3, 5), 0);
        due("8 day() 3", x.day(), 2);
        due("8 day() 4", x.day(), 0);
        due("8 loaf(2, 5)", x.loaf(2, 5), 0);
        due("8 loaf(0, 5)", x.loaf(0, 5), NONE);
    }

    private static void bite() {
        LoafLetters x = Due.laid("w3,2,2,1;w0,2,0,1;w0,0,0,0;");
        due("9 bite(0) of none", x.bite(0), BAD);
        x.bake(0, 0);
        x.bake(0, 2);
        x.bake(1, 0);
        due("9 bite(3)", x.bite(3), BAD);
        due("9 bite(-1)", x.bite(-1), BAD);
        due("9 bite(MOST)", x.bite(MOST), BAD);
        due("9 bite(LEAST)", x.bite(LEAST), BAD);
        int[] signs = {15, 12, 0, 0, 0, 0, 0, 0, 0};
        for (int n = 1; n <= 9; n++) {
            due("9 bite(0)", x.bite(0), n);
            due("9 loaf(0, 4) behind " + n, x.loaf(0, 4), signs[n - 1]);
            due("9 bite(1)", x.bite(1), n);
            due("9 loaf(1, 4): SEALED", x.loaf(1, 4), 63);
        }
        due("9 bite(0) a tenth time", x.bite(0), FULL);
        due("9 bite(1) a tenth time", x.bite(1), FULL);
        due("9 loaf(0, 3)", x.loaf(0, 3), 9);
        due("9 count(5)", x.count(5), 8);
        x.undo();
        due("9 count(5) behind undo()", x.count(5), 7);
        due("9 bite(1) behind undo()", x.bite(1), 9);
        due("9 bite(2)", x.bite(2), 1);
        due("9 loaf(2, 4): cuts go where nothing else is", x.loaf(2, 4), 0);
        due("9 loaf(2, 5)", x.loaf(2, 5), 2);
        x.day();
        x.day();
        x.day();
        due("9 loaf(2, 4): bitten behind all its days", x.loaf(2, 4), 0);
    }

    private static void take() {
        LoafLetters x = Due.laid(THREE);
        due("10 take(0) of none", x.take(0), BAD);
        x.bake(0, 0);
        x.day();
        x.bake(1, 3);
        x.bite(1);
        x.bake(2, 1);
        due("10 take(3)", x.take(3), BAD);
        due("10 take(-1)", x.take(-1), BAD);
        due("10 take(MOST)", x.take(MOST), BAD);
        due("10 take(LEAST)", x.take(LEAST), BAD);
        due("10 count(5) behind BAD", x.count(5), 5);
        due("10 take(0)", x.take(0), 0);
        int[] moved = {1, 3, 0, 1, 0, NONE};
        for (int what = 0; what <= 5; what++) {
            due("10 loaf(0, " + what + ") moved up", x.loaf(0, what), moved[what]);
        }
        due("10 loaf(1, 1)", x.loaf(1, 1), 1);
        due("10 loaf(2, 0)", x.loaf(2, 0), BAD);
        due("10 take(1)", x.take(1), 2);
        due("10 take(1) again", x.take(1), BAD);
        due("10 take(0) of a DECOY", x.take(0), 1);
        due("10 count(3)", x.count(3), 0);
    }

    private static void undo() {
        LoafLetters x = Due.laid(THREE);
        x.bake(0, 1);
        x.bake(1, 0);
        x.day();
        x.bite(1);
        x.take(0);
        due("11 undo() of take", x.undo(), 4);
        due("11 loaf(0, 1)", x.loaf(0, 1), 1);
        due("11 loaf(1, 3)", x.loaf(1, 3), 1);
        due("11 undo() of bite", x.undo(), 3);
        due("11 loaf(1, 3)", x.loaf(1, 3), 0);
        due("11 undo() of day", x.undo(), 2);
        due("11 loaf(1, 2)", x.loaf(1, 2), 0);
        due("11 undo() of bake", x.undo(), 1);
        due("11 count(3)", x.count(3), 1);
        due("11 count(4): its FLOUR is used no more", x.count(4), 16);
        due("11 undo()", x.undo(), 0);
        due("11 count(4)", x.count(4), 0);
        due("11 undo() of none", x.undo(), NO);
        x.bake(0, 0);
        for (int i = 0; i < 12; i++) {
            x.day();
        }
        for (int i = 7; i >= 0; i--) {
            due("11 undo() of the last 8", x.undo(), i);
        }
        due("11 undo() of a ninth", x.undo(), NO);
        due("11 loaf(0, 2)", x.loaf(0, 2), 4);
    }

    private static void loaf() {
        LoafLetters x = Due.laid(THREE);
        due("12 loaf(0, 0) of none", x.loaf(0, 0), BAD);
        x.bake(2, 1);
        x.bake(1, 0);
        for (int i = 0; i < 6; i++) {
            x.day();
        }
        x.bite(1);
        int[] sour = {2, 1, 6, 0, 10, NONE};
        int[] plain = {1, 0, 6, 1, 12, NONE};
        for (int what = 0; what <= 5; what++) {
            due("12 loaf(0, " + what + ")", x.loaf(0, what), sour[what]);
            due("12 loaf(1, " + what + ")", x.loaf(1, what), plain[what]);
        }
        due("12 loaf(0, 6)", x.loaf(0, 6), BAD);
        due("12 loaf(0, -1)", x.loaf(0, -1), BAD);
        due("12 loaf(2, 0)", x.loaf(2, 0), BAD);
        due("12 loaf(-1, 0)", x.loaf(-1, 0), BAD);
        due("12 loaf(MOST, 0)", x.loaf(MOST, 0), BAD);
        due("12 loaf(LEAST, 0)", x.loaf(LEAST, 0), BAD);
        for (int i = 0; i < 30; i++) {
            x.day();
        }
        due("12 loaf(0, 2) of many days", x.loaf(0, 2), 36);
        due("12 loaf(0, 4) of many days", x.loaf(0, 4), 18);
    }

    private static void becomes() {
        LoafLetters x = Due.laid("w0,0,0,0;b3,4;");
        due("13 becomes(71, 0, 0)", x.becomes(71, 0, 0), 71);
        due("13 becomes(53, 2, 0)", x.becomes(53, 2, 0), 53);
        due("13 becomes(53, 3, 0)", x.becomes(53, 3, 0), 52);
        due("13 becomes(53, 4, 0)", x.becomes(53, 4, 0), 58);
        due("13 becomes(53, 14, 0)", x.becomes(53, 14, 0), 67);
        due("13 becomes(53, 20, 0)", x.becomes(53, 20, 0), 66);
        due("13 becomes(53, 4, 1)", x.becomes(53, 4, 1), 10);
        due("13 becomes(53, 4, 2)", x.becomes(53, 4, 2), 6);
        due("13 becomes(53, 4, 3)", x.becomes(53, 4, 3), 0);
        due("13 becomes(6, 0, 1)", x.becomes(6, 0, 1), 0);
        due("13 becomes(24, 0, 1)", x.becomes(24, 0, 1), 0);
        due("13 becomes(0, 20, 1): the mould's cuts are bitten off", x.becomes(0, 20, 1), 0);
        LoafLetters daily = Due.laid("w0,0,0,0;b1,1;");
        due("13 becomes(53, 1, 0) of b1,1;", daily.becomes(53, 1, 0), 58);
        due("13 becomes(53, 2, 0) of b1,1;", daily.becomes(53, 2, 0), 63);
        due("13 becomes(53, 4, 0) of b1,1;", daily.becomes(53, 4, 0), 67);
        int[][] bad = {{72, 0, 0}, {-1, 0, 0}, {0, 21, 0}, {0, -1, 0}, {0, 0, 4}, {0, 0, -1}, {MOST, MOST, MOST}, {LEAST, LEAST, LEAST}};
        for (int[] call : bad) {
            String args = "(" + call[0] + ", " + call[1] + ", " + call[2] + ")";
            due("13 becomes" + args, x.becomes(call[0], call[1], call[2]), BAD);
            due("14 mayBe" + args, x.mayBe(call[0], call[1], call[2]), BAD);
            due("15 can" + args, x.can(call[0], 0, call[1], call[2]), BAD);
            due("16 was" + args, x.was(call[0], call[1], call[2]), BAD);
        }
    }

    private static void mayBe() {
        LoafLetters x = Due.laid("w0,0,0,0;b3,4;");
        due("14 mayBe(53, 0, 0)", x.mayBe(53, 0, 0), 1);
        // 53, 52, 58
        due("14 mayBe(53, 4, 0)", x.mayBe(53, 4, 0), 3);
        // and 5, 4, 10 behind a bite
        due("14 mayBe(53, 4, 1)", x.mayBe(53, 4, 1), 6);
        // and 0, 6 behind two
        due("14 mayBe(53, 4, 2)", x.mayBe(53, 4, 2), 8);
        due("14 mayBe(53, 4, 3)", x.mayBe(53, 4, 3), 8);
        due("14 mayBe(0, 0, 3)", x.mayBe(0, 0, 3), 1);
        due("14 mayBe(0, 20, 0)", x.mayBe(0, 20, 0), 4);
        due("14 mayBe(71, 0, 3)", x.mayBe(71, 0, 3), 4);
    }

    private static void can() {
        LoafLetters x = Due.laid("w0,0,0,0;b3,4;");
        int[] hits = {53, 52, 58, 5, 4, 10, 0, 6};
        int found = 0;
        for (int to = 0; to < 72; to++) {
            found += x.can(53, to, 4, 2);
        }
        due("15 can(53, .., 4, 2)", found, hits.length);
        for (int to : hits) {
            due("15 can(53, " + to + ", 4, 2)", x.can(53, to, 4, 2), 1);
        }
        due("15 can(71, 71, 0, 0)", x.can(71, 71, 0, 0), 1);
        due("15 can(71, 7, 0, 0)", x.can(71, 7, 0, 0), 0);
        due("15 can(7, 71, 20, 3)", x.can(7, 71, 20, 3), 0);
        due("15 can(71, 70, 2, 0)", x.can(71, 70, 2, 0), 0);
        due("15 can(71, 70, 3, 0)", x.can(71, 70, 3, 0), 1);
        for (int sign = 0; sign < 72; sign++) {
            due("15 can(" + sign + ", itself, 0, 0)", x.can(sign, sign, 0, 0), 1);
            due("15 can(" + sign + ", another, 0, 0)", x.can(sign, (sign + 8) % 72, 0, 0), 0);
        }
        due("15 can(0, 72, 0, 0)", x.can(0, 72, 0, 0), BAD);
        due("15 can(0, -1, 0, 0)", x.can(0, -1, 0, 0), BAD);
        due("15 can(0, MOST, 0, 0)", x.can(0, MOST, 0, 0), BAD);
    }

    private static void was() {
        LoafLetters x = Due.laid("w3,0,0,1;w3,0,2,1;w0,0,0,1;w5,0,0,1;");
        due("16 was(3, 0, 0)", x.was(3, 0, 0), 1);
        due("16 was(3, 0, 1)", x.was(3, 0, 1), 3);
        // Two birds' ways from 5 seeds to 3 take 4 days, and then there is a cut.
        due("16 was(9, 4, 0)", x.was(9, 4, 0), 8);
        due("16 was(9, 3, 0)", x.was(9, 3, 0), 0);
        due("16 was(0, 0, 2)", x.was(0, 0, 2), 15);
        due("16 was(0, 0, 1)", x.was(0, 0, 1), 13);
        due("16 was(71, 20, 3)", x.was(71, 20, 3), 0);
    }

    private static void half() {
        LoafLetters x = Due.laid("w3,0,0,1;w3,2,2,1;w0,0,0,1;w5,3,0,1;w4,1,2,1;");
        due("17 half(0, 0, 0)", x.half(0, 0, 0), 13);
        due("17 half(3, 0, 0)", x.half(3, 0, 0), 9);
        due("17 half(4, 0, 0)", x.half(4, 0, 0), 8);
        due("17 half(5, 3, 0)", x.half(5, 3, 0), 8);
        due("17 half(0, 0, 1)", x.half(0, 0, 1), 0);
        due("17 half(0, 1, 2)", x.half(0, 1, 2), 18);
        due("17 half(0, 0, 1) of a filling alone", Due.laid("w0,0,1,0;w0,0,2,0;").half(0, 0, 1), 1);
        due("17 half(0, 0, 2) of a filling alone", Due.laid("w0,0,1,0;w0,0,2,0;").half(0, 0, 2), 2);
        due("17 half(3, 2, 2)", x.half(3, 2, 2), 2);
        due("17 half(4, 2, 2)", x.half(4, 2, 2), 0);
        int[][] bad = {{6, 0, 0}, {-1, 0, 0}, {0, 4, 0}, {0, -1, 0}, {0, 0, 3}, {0, 0, -1}, {MOST, MOST, MOST}, {LEAST, LEAST, LEAST}};
        for (int[] call : bad) {
            due("17 half of wrong numbers", x.half(call[0], call[1], call[2]), BAD);
        }
    }

    private static void code() {
        LoafLetters x = new LoafLetters();
        due("18 code(1, 20, 3, -1)", x.code(1, 20, 3, -1), 1);
        due("18 code(1, 20, 3, 0)", x.code(1, 20, 3, 0), 0);
        due("18 code(1, 0, 0, 1)", x.code(1, 0, 0, 1), BAD);
        due("18 code(2, 20, 3, 0)", x.code(2, 20, 3, 0), NONE);
        due("18 code(2, 20, 3, 2): BAD ahead of NONE", x.code(2, 20, 3, 2), BAD);
        due("18 code(2, 20, 3, -2)", x.code(2, 20, 3, -2), BAD);
        due("18 code(2, 21, 3, 0)", x.code(2, 21, 3, 0), BAD);
        due("18 code(2, -1, 0, 0)", x.code(2, -1, 0, 0), BAD);
        due("18 code(2, 0, 4, 0)", x.code(2, 0, 4, 0), BAD);
        due("18 code(2, 0, -1, 0)", x.code(2, 0, -1, 0), BAD);
        due("18 code(0, 0, 0, -1)", x.code(0, 0, 0, -1), BAD);
        due("18 code(4, 0, 0, 3)", x.code(4, 0, 0, 3), BAD);
        due("18 code(MOST, 0, 0, 0)", x.code(MOST, 0, 0, 0), BAD);
        due("18 code(LEAST, 0, 0, 0)", x.code(LEAST, 0, 0, 0), BAD);
        due("18 code(3, 0, 0, MOST)", x.code(3, 0, 0, MOST), BAD);
        due("18 code(3, 0, 0, 3)", x.code(3, 0, 0, 3), BAD);
    }

    private static void codeOfSeveral() {
        LoafLetters x = Due.laid("w0,0,0,0;b9,9;");
        // 0, 1, 2 and 0, 1, 6 have 6 of FLOUR both: the first counts.
        int[] due = {6, 0, 1, 2};
        for (int i = -1; i < 3; i++) {
            due("18 code(3, 0, 0, " + i + ")", x.code(3, 0, 0, i), due[i + 1]);
        }
        // A bite makes 0 of signs of one part alone: 0 (1 of FLOUR) and 7 (4).
        due("18 code(2, 0, 1, -1)", x.code(2, 0, 1, -1), 5);
        due("18 code(2, 0, 1, 0)", x.code(2, 0, 1, 0), 0);
        due("18 code(2, 0, 1, 1)", x.code(2, 0, 1, 1), 7);
        due("18 code(3, 0, 3, 0)", x.code(3, 0, 3, 0), NONE);
    }

    private static void sent() {
        LoafLetters x = Due.laid("w1,0,0,5;w0,0,0,5;w0,3,0,5;c3,2;c0,6;c9,6;");
        due("19 sent(0, 0, 0, 0)", x.sent(0, 0, 0, 0), 49);
        due("19 sent(0, 0, 0, 1)", x.sent(0, 0, 0, 1), 100);
        due("19 sent(0, 1, 1, 0)", x.sent(0, 1, 1, 0), 1);
        due("19 sent(0, 1, 1, 1)", x.sent(0, 1, 1, 1), 1);
        due("19 sent(0, 0, 2, 0): its seed is gone", x.sent(0, 0, 2, 0), 0);
        due("19 sent(0, 0, 2, 1)", x.sent(0, 0, 2, 1), 1);
        due("19 sent(0, 2, 0, 0)", x.sent(0, 2, 0, 0), 1);
        due("19 sent(0, 2, 0, 1)", x.sent(0, 2, 0, 1), 1000000);
        due("19 sent(1, 2, 0, 0): bites take nothing", x.sent(1, 2, 0, 0), 1);
        due("19 sent(1, 2, 0, 1)", x.sent(1, 2, 0, 1), 1);
        due("19 sent(1, 0, 3, 0): a bite takes the mould", x.sent(1, 0, 3, 0), 51);
        due("19 sent(1, 0, 20, 1)", x.sent(1, 0, 20, 1), 100);
        due("19 sent(2, 0, 20, 0)", x.sent(2, 0, 20, 0), 49);
        int[][] bad = {{3, 0, 0, 0}, {-1, 0, 0, 0}, {0, 3, 0, 0}, {0, -1, 0, 0}, {0, 0, 21, 0}, {0, 0, -1, 0}, {0, 0, 0, 2}, {0, 0, 0, -1},
            {MOST, MOST, MOST, MOST}, {LEAST, LEAST, LEAST, LEAST}};
        for (int[] call : bad) {
            due("19 sent of wrong numbers", x.sent(call[0], call[1], call[2], call[3]), BAD);
        }
        LoafLetters five = Due.laid("w1,0,0,5;c5,1;c5,3;");
        due("19 sent(0, 0, 0, 1) in lowest terms", five.sent(0, 0, 0, 1), 2);
        due("19 sent(0, 1, 0, 0) in lowest terms", five.sent(0, 1, 0, 0), 1);
        due("19 sent(0, 1, 0, 1) in lowest terms", five.sent(0, 1, 0, 1), 8);
    }

    private static void whom() {
        LoafLetters x = new LoafLetters();
        due("20 whom(0, 0) of no CARRIERS", x.whom(0, 0), NONE);
        due("20 whom(1, 0): BAD ahead of NONE", x.whom(1, 0), BAD);
        due("20 whom(0, 21): BAD ahead of NONE", x.whom(0, 21), BAD);
        LoafLetters y = Due.laid("w1,0,0,5;w0,0,0,5;c3,2;c5,1;c1,6;c1,6;c9,6;");
        // 49, 50, 53.1441 of a hundred
        due("20 whom(0, 0)", y.whom(0, 0), 2);
        due("20 whom(0, 2): all alike, the lowest", y.whom(0, 2), 0);
        due("20 whom(1, 0): all alike, the lowest", y.whom(1, 0), 0);
        due("20 whom(1, 3): the hungriest", y.whom(1, 3), 4);
        due("20 whom(2, 0)", y.whom(2, 0), BAD);
        due("20 whom(-1, 0)", y.whom(-1, 0), BAD);
        due("20 whom(0, -1)", y.whom(0, -1), BAD);
        due("20 whom(MOST, MOST)", y.whom(MOST, MOST), BAD);
        LoafLetters z = Due.laid("w1,0,0,5;c3,2;c5,1;");
        due("20 whom(0, 0): 1/2 above 49/100", z.whom(0, 0), 1);
    }

    private static void two() {
        LoafLetters x = Due.laid("w1,0,0,5;w0,0,0,5;c5,1;c3,2;c9,6;c9,6;");
        due("21 two(0, 0, 1, 0, 0)", x.two(0, 0, 1, 0, 0), 149);
        due("21 two(0, 0, 1, 0, 1)", x.two(0, 0, 1, 0, 1), 200);
        due("21 two(0, 1, 0, 0, 0)", x.two(0, 1, 0, 0, 0), 149);
        due("21 two(0, 2, 3, 0, 0)", x.two(0, 2, 3, 0, 0), 1999999L);
        due("21 two(0, 2, 3, 0, 1)", x.two(0, 2, 3, 0, 1), 1000000000000L);
        due("21 two(0, 2, 3, 2, 0)", x.two(0, 2, 3, 2, 0), 0);
        due("21 two(0, 2, 3, 2, 1)", x.two(0, 2, 3, 2, 1), 1);
        due("21 two(1, 2, 3, 0, 1)", x.two(1, 2, 3, 0, 1), 1);
        due("21 two(1, 2, 3, 3, 0)", x.two(1, 2, 3, 3, 0), 999999999999L);
        int[][] bad = {{0, 0, 0, 0, 0}, {0, 3, 3, 0, 1}, {2, 0, 1, 0, 0}, {-1, 0, 1, 0, 0}, {0, 4, 1, 0, 0}, {0, -1, 1, 0, 0}, {0, 0, 4, 0, 0},
            {0, 0, -1, 0, 0}, {0, 0, 1, 21, 0}, {0, 0, 1, -1, 0}, {0, 0, 1, 0, 2}, {0, 0, 1, 0, -1}, {MOST, MOST, LEAST, MOST, MOST}};
        for (int[] call : bad) {
            due("21 two of wrong numbers", x.two(call[0], call[1], call[2], call[3], call[4]), BAD);
        }
    }

    private static void said() {
        // FLOUR 1, 2, 3, 3, 4
        LoafLetters x = Due.laid("w0,0,0,0;w1,0,0,10;w2,0,0,10;w0,1,0,20;w3,0,0,20;");
        int[] sets = {0, 0, 2, 8, 8, 10, 10, 24, 14, 26};
        int[] worths = {0, 0, 10, 20, 20, 30, 30, 40, 40, 50};
        for (int f = 0; f < sets.length; f++) {
            due("22 said(" + f + ", 0)", x.said(f, 0), sets[f]);
            due("22 said(" + f + ", 1)", x.said(f, 1), worths[f]);
        }
        due("22 said(99, 0): a WORD of no worth is left", x.said(99, 0), 30);
        due("22 said(99, 1)", x.said(99, 1), 60);
        due("22 said(100, 0)", x.said(100, 0), BAD);
        due("22 said(-1, 0)", x.said(-1, 0), BAD);
        due("22 said(0, 2)", x.said(0, 2), BAD);
        due("22 said(0, -1)", x.said(0, -1), BAD);
        due("22 said(MOST, LEAST)", x.said(MOST, LEAST), BAD);
        due("22 said(1, 0) of WORD 0 alone", new LoafLetters().said(1, 0), 0);
        due("22 said(2, 0) of WORD 0 alone", new LoafLetters().said(2, 0), 1);
        due("22 said(2, 1) of WORD 0 alone", new LoafLetters().said(2, 1), 5);
        LoafLetters tie = Due.laid("w0,0,0,5;w1,0,0,5;w2,0,0,10;");
        due("22 said(3, 0): 0 and 1 (bits 3) are less than 2 (bits 4)", tie.said(3, 0), 3);
    }

    private static void told() {
        LoafLetters x = Due.laid("w0,0,0,0;k7;k21;k63;k0;k8;");
        int[] sets = {0, 1, 3, 8, 16, 40, 63};
        int[] bakers = {31, 7, 5, 20, 6, 4, 4};
        int[] ones = {NONE, NONE, NONE, NONE, NONE, 2, 2};
        for (int i = 0; i < sets.length; i++) {
            due("23 told(" + sets[i] + ", 0)", x.told(sets[i], 0), bakers[i]);
            due("23 told(" + sets[i] + ", 1)", x.told(sets[i], 1), ones[i]);
        }
        due("23 told(64, 0)", x.told(64, 0), BAD);
        due("23 told(-1, 0)", x.told(-1, 0), BAD);
        due("23 told(0, 2)", x.told(0, 2), BAD);
        due("23 told(0, -1)", x.told(0, -1), BAD);
        due("23 told(MOST, 0)", x.told(MOST, 0), BAD);
        LoafLetters none = new LoafLetters();
        due("23 told(0, 0) of no BAKERS", none.told(0, 0), 0);
        due("23 told(0, 1) of no BAKERS", none.told(0, 1), NONE);
        LoafLetters one = Due.laid("w0,0,0,0;k2;");
        due("23 told(0, 1) of one BAKER", one.told(0, 1), 0);
        due("23 told(1, 1) of one BAKER", one.told(1, 1), NONE);
    }

    private static void month() {
        // z = 0: day 0 has DRAW 1 (word 1, no days, no bites); day 1 has 6152 * 6152 modulo 65521 = 41487.
        LoafLetters x = Due.laid("w0,0,0,0;w1,0,0,0;");
        due("24 month(0, 1, 0)", x.month(0, 1, 0), 1);
        due("24 month(0, 1, 1)", x.month(0, 1, 1), 0);
        // 41487: word 1, 2592 modulo 7 = 2 days (no seed left), 162 modulo 3 = 0 bites: word 0.
        due("24 month(0, 2, 0)", x.month(0, 2, 0), 1);
        due("24 month(0, 2, 1)", x.month(0, 2, 1), 1);
        LoafLetters one = new LoafLetters();
        due("24 month(5, 30, 0)", one.month(5, 30, 0), 4);
        due("24 month(5, 30, 1) of one WORD", one.month(5, 30, 1), 0);
        int[][] bad = {{-1, 1, 0}, {10000, 1, 0}, {0, 0, 0}, {0, 31, 0}, {0, 1, 2}, {0, 1, -1}, {MOST, MOST, MOST}, {LEAST, LEAST, LEAST}};
        for (int[] call : bad) {
            due("24 month of wrong numbers", x.month(call[0], call[1], call[2]), BAD);
        }
    }

    private static void keep() {
        LoafLetters x = Due.laid(THREE);
        due("25 keep() of nothing", x.keep(), 1);
        x.bake(0, 0);
        due("25 count(5)", x.count(5), 1);
        due("25 keep()", x.keep(), 2);
        due("25 count(5): keep() is none that can be UNDONE", x.count(5), 1);
        due("25 keep() of a third", x.keep(), FULL);
        due("25 count(6)", x.count(6), 2);
        due("25 undo() behind keep()", x.undo(), 0);
        due("25 count(6) behind undo()", x.count(6), 2);
        due("25 back()", x.back(), 1);
        due("25 count(3)", x.count(3), 1);
    }

    private static void back() {
        LoafLetters x = Due.laid(THREE);
        due("26 back() of none", x.back(), NO);
        x.bake(0, 0);
        x.day();
        x.keep();
        x.bite(0);
        x.bake(1, 2);
        x.keep();
        x.take(0);
        x.take(0);
        x.bake(2, 1);
        due("26 back()", x.back(), 1);
        due("26 count(3)", x.count(3), 2);
        due("26 count(4)", x.count(4), 16);
        due("26 loaf(0, 3)", x.loaf(0, 3), 1);
        due("26 loaf(1, 1)", x.loaf(1, 1), 2);
        due("26 count(5)", x.count(5), 0);
        due("26 undo()", x.undo(), NO);
        x.day();
        due("26 undo() of what came behind", x.undo(), 0);
        due("26 back()", x.back(), 0);
        due("26 count(3)", x.count(3), 1);
        due("26 count(4)", x.count(4), 8);
        due("26 loaf(0, 2)", x.loaf(0, 2), 1);
        due("26 loaf(0, 3)", x.loaf(0, 3), 0);
        x.day();
        due("26 back() of none left", x.back(), NO);
        due("26 count(5) behind NO", x.count(5), 1);
        due("26 keep() again", x.keep(), 1);
    }

    private static void count() {
        LoafLetters x = Due.laid(THREE + "c1,1;c2,2;k1;");
        x.bake(0, 0);
        x.bake(1, 1);
        x.day();
        x.keep();
        int[] due = {3, 2, 1, 2, 20, 3, 1, 43};
        for (int what = 0; what < due.length; what++) {
            due("27 count(" + what + ")", x.count(what), due[what]);
        }
        due("27 count(8)", x.count(8), BAD);
        due("27 count(-1)", x.count(-1), BAD);
        due("27 count(MOST)", x.count(MOST), BAD);
        due("27 count(LEAST)", x.count(LEAST), BAD);
    }
}
