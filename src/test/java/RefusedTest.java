import java.util.Arrays;
import java.util.function.Supplier;
import java.util.function.ToLongFunction;

/** What BAD, NO, NONE and FULL are, for every call that has them, which of several comes first, and that nothing changes then. */
public final class RefusedTest {
    private static final int BAD = LoafLetters.BAD, NO = LoafLetters.NO, FULL = LoafLetters.FULL, NONE = LoafLetters.NONE;

    private interface Call {
        long on(LoafLetters x, int... numbers);
    }

    /** A call with numbers that are told, and between which each of them is. */
    private record Row(String name, Call call, int[] told, int[] low, int[] high) {
        String with(int[] numbers) {
            return name + Arrays.toString(numbers);
        }
    }

    private static int[] row(int... numbers) {
        return numbers;
    }

    public static void main(String[] args) {
        for (Row row : rows(3)) {
            badOfOneNumber(row, RefusedTest::busy);
            badOfTwoNumbers(row, RefusedTest::busy);
        }
        for (Row row : rows(8)) {
            badOfOneNumber(row, RefusedTest::full);
            badOfTwoNumbers(row, RefusedTest::full);
        }
        askingChangesNothing();
        noAsThingsStand();
        thereIsNone();
        itIsFull();
        badAheadOfFull();
        badAheadOfNone();
        Due.end("RefusedTest");
    }

    /** Three words, four carriers, three bakers, three loaves, seven that can be undone, one kept; another text is written. */
    private static LoafLetters busy() {
        LoafLetters x = Due.laid("w3,2,0,30;w2,0,1,20;w5,0,0,10;b4,5;c3,2;c1,6;c9,1;c5,3;k5;k7;k0;");
        x.bake(0, 1);
        x.bake(1, 0);
        x.day();
        x.bite(1);
        x.keep();
        x.bake(2, 2);
        x.day();
        x.bite(2);
        x.wipe();
        Due.write(x, "w1,0,0,7;w2,0,0,8;b6,7;c2,2;k9;");
        return x;
    }

    /** The same valley with a larder, a text and what is kept and can be undone as full as they can be. */
    private static LoafLetters full() {
        LoafLetters x = Due.laid("w3,2,0,30;w2,0,1,20;w5,0,0,10;b4,5;c3,2;c1,6;c9,1;c5,3;k5;k7;k0;");
        for (int i = 0; i < 8; i++) {
            x.bake(i % 3, i % 4);
        }
        x.keep();
        Due.bites(x, 2, 9);
        x.keep();
        x.day();
        x.wipe();
        Due.write(x, "w01,0,0,7;" + "b6,7;".repeat(58));
        return x;
    }

    /** Every call of the face that takes numbers. */
    private static Row[] rows(int loaves) {
        int last = loaves - 1;
        return new Row[] {
            new Row("write", (x, n) -> x.write(n[0], 0x6b6b6b6b6b6b6b6bL), row(1), row(1), row(8)),
            new Row("word", (x, n) -> x.word(n[0], n[1]), row(1, 1), row(0, 0), row(2, 2)),
            new Row("bake", (x, n) -> x.bake(n[0], n[1]), row(1, 1), row(0, 0), row(2, 3)),
            new Row("bite", (x, n) -> x.bite(n[0]), row(1), row(0), row(last)),
            new Row("take", (x, n) -> x.take(n[0]), row(1), row(0), row(last)),
            new Row("loaf", (x, n) -> x.loaf(n[0], n[1]), row(1, 4), row(0, 0), row(last, 5)),
            new Row("becomes", (x, n) -> x.becomes(n[0], n[1], n[2]), row(53, 4, 1), row(0, 0, 0), row(71, 20, 3)),
            new Row("mayBe", (x, n) -> x.mayBe(n[0], n[1], n[2]), row(53, 4, 1), row(0, 0, 0), row(71, 20, 3)),
            new Row("can", (x, n) -> x.can(n[0], n[1], n[2], n[3]), row(53, 5, 4, 1), row(0, 0, 0, 0), row(71, 71, 20, 3)),
            new Row("was", (x, n) -> x.was(n[0], n[1], n[2]), row(5, 4, 1), row(0, 0, 0), row(71, 20, 3)),
            new Row("half", (x, n) -> x.half(n[0], n[1], n[2]), row(1, 0, 0), row(0, 0, 0), row(5, 3, 2)),
            new Row("code", (x, n) -> x.code(n[0], n[1], n[2], n[3]), row(1, 4, 1, 0), row(1, 0, 0, -1), row(3, 20, 3, 0)),
            new Row("code", (x, n) -> x.code(n[0], n[1], n[2], n[3]), row(2, 4, 1, 0), row(1, 0, 0, -1), row(3, 20, 3, 1)),
            new Row("code", (x, n) -> x.code(n[0], n[1], n[2], n[3]), row(3, 4, 1, 0), row(1, 0, 0, -1), row(3, 20, 3, 2)),
            new Row("sent", (x, n) -> x.sent(n[0], n[1], n[2], n[3]), row(1, 1, 1, 1), row(0, 0, 0, 0), row(2, 3, 20, 1)),
            new Row("whom", (x, n) -> x.whom(n[0], n[1]), row(1, 1), row(0, 0), row(2, 20)),
            new Row("two", (x, n) -> x.two(n[0], n[1], n[2], n[3], n[4]), row(1, 1, 2, 1, 1), row(0, 0, 2, 0, 0), row(2, 3, 3, 20, 1)),
            new Row("two", (x, n) -> x.two(n[0], n[1], n[2], n[3], n[4]), row(1, 3, 1, 1, 1), row(0, 2, 0, 0, 0), row(2, 3, 2, 20, 1)),
            new Row("said", (x, n) -> x.said(n[0], n[1]), row(20, 1), row(0, 0), row(99, 1)),
            new Row("told", (x, n) -> x.told(n[0], n[1]), row(5, 1), row(0, 0), row(63, 1)),
            new Row("month", (x, n) -> x.month(n[0], n[1], n[2]), row(7, 9, 1), row(0, 1, 0), row(9999, 30, 1)),
            new Row("count", (x, n) -> x.count(n[0]), row(3), row(0), row(7)),
        };
    }

    private static int[] changed(int[] numbers, int place, int value) {
        int[] copy = numbers.clone();
        copy[place] = value;
        return copy;
    }

    private static void badOfOneNumber(Row row, Supplier<LoafLetters> made) {
        Due.sentence("BAD: a number is none that is told; nothing changes then: " + row.name);
        for (int place = 0; place < row.told.length; place++) {
            for (int value : row(row.low[place], row.high[place])) {
                int[] numbers = changed(row.told, place, value);
                // Of two unlike carriers the other one is left out, and the i-th sign goes with k.
                if (row.name.equals("two") && numbers[1] == numbers[2] || row.name.equals("code") && numbers[3] >= numbers[0]) {
                    continue;
                }
                Due.due(row.with(numbers) + " is BAD", row.call.on(made.get(), numbers) == BAD ? 1 : 0, 0);
            }
            int[] outside = {row.low[place] - 1, row.high[place] + 1, Integer.MIN_VALUE, Integer.MAX_VALUE};
            for (int value : outside) {
                int[] numbers = changed(row.told, place, value);
                // A carrier twice is no less BAD than one that is none.
                Picture.unchanged(row.with(numbers), made, x -> row.call.on(x, numbers), BAD);
            }
        }
    }

    private static void badOfTwoNumbers(Row row, Supplier<LoafLetters> made) {
        Due.sentence("BAD: several numbers are none that are told: " + row.name);
        for (int one = 0; one < row.told.length; one++) {
            for (int other = 0; other < one; other++) {
                int[] above = changed(changed(row.told, one, row.high[one] + 1), other, row.high[other] + 1);
                int[] below = changed(changed(row.told, one, row.low[one] - 1), other, row.low[other] - 1);
                Picture.unchanged(row.with(above), made, x -> row.call.on(x, above), BAD);
                Picture.unchanged(row.with(below), made, x -> row.call.on(x, below), BAD);
            }
        }
    }

    private static void askingChangesNothing() {
        Due.sentence("the state changes described: calls that ask have none");
        String[] changing = {"write", "bake", "bite", "take"};
        for (Row row : rows(3)) {
            if (!Arrays.asList(changing).contains(row.name)) {
                long answer = row.call.on(busy(), row.told);
                Picture.unchanged(row.with(row.told), RefusedTest::busy, x -> row.call.on(x, row.told), answer);
            }
        }
        Picture.unchanged("fault()", RefusedTest::busy, LoafLetters::fault, NONE);
    }

    private static LoafLetters before(Supplier<LoafLetters> made, String text) {
        LoafLetters x = made.get();
        x.wipe();
        Due.write(x, text);
        return x;
    }

    private static void noAsThingsStand() {
        Due.sentence("NO: not as things stand; nothing changes then");
        String[] texts = {"", "b9,9;c1,1;k1;", "w1,0,0,1;w1,0,0,2;", "w1,0,0,1;k64;", "w1,0,0,1"};
        for (String text : texts) {
            Picture.unchanged("lay() of " + text, () -> before(RefusedTest::busy, text), LoafLetters::lay, NO);
        }
        Picture.unchanged("undo()", () -> drained(LoafLetters::undo), LoafLetters::undo, NO);
        Picture.unchanged("back()", () -> drained(LoafLetters::back), LoafLetters::back, NO);
        Due.due("lay()", busy().lay(), 2);
        Due.due("undo()", busy().undo(), 6);
        Due.due("back()", busy().back(), 0);
    }

    private static LoafLetters drained(ToLongFunction<LoafLetters> call) {
        LoafLetters x = busy();
        for (int i = 0; i < 9; i++) {
            call.applyAsLong(x);
        }
        return x;
    }

    private static void thereIsNone() {
        Due.sentence("NONE: there is none; nothing changes then");
        Picture.unchanged("fault()", RefusedTest::busy, LoafLetters::fault, NONE);
        Picture.unchanged("loaf(1, 5)", RefusedTest::busy, x -> x.loaf(1, 5), NONE);
        Picture.unchanged("code(2, 20, 3, 1)", RefusedTest::busy, x -> x.code(2, 20, 3, 1), NONE);
        Picture.unchanged("code(3, 20, 3, -1)", RefusedTest::busy, x -> x.code(3, 20, 3, -1), NONE);
        Picture.unchanged("told(5, 1)", RefusedTest::busy, x -> x.told(5, 1), NONE);
        Picture.unchanged("told(8, 1)", RefusedTest::busy, x -> x.told(8, 1), NONE);
        Picture.unchanged("whom(0, 0)", LoafLetters::new, x -> x.whom(0, 0), NONE);
        Due.due("loaf(0, 5)", busy().loaf(0, 5), 0);
        Due.due("code(2, 0, 0, 1)", busy().code(2, 0, 0, 1), 1);
        Due.due("told(2, 1)", busy().told(2, 1), 1);
        Due.due("whom(0, 0)", busy().whom(0, 0), 1);
    }

    private static void itIsFull() {
        Due.sentence("FULL; nothing changes then");
        for (int n = 1; n <= 8; n++) {
            int bytes = n;
            Picture.unchanged("write(" + n + ", ..)", RefusedTest::full, x -> x.write(bytes, -1L), FULL);
        }
        for (int kind = 0; kind < 4; kind++) {
            int each = kind;
            Picture.unchanged("bake(2, " + kind + ")", RefusedTest::full, x -> x.bake(2, each), FULL);
        }
        Picture.unchanged("bite(2)", RefusedTest::full, x -> x.bite(2), FULL);
        Picture.unchanged("keep()", RefusedTest::full, LoafLetters::keep, FULL);
        Due.due("write(8, 0)", busy().write(8, 0), 39);
        Due.due("bake(2, 0)", busy().bake(2, 0), 4);
        Due.due("bite(2)", busy().bite(2), 2);
        Due.due("bite(1)", full().bite(1), 1);
        Due.due("keep()", busy().keep(), 2);
    }

    private static void badAheadOfFull() {
        Due.sentence("Of several the first in this order: BAD ahead of FULL");
        Picture.unchanged("write(0, 0)", RefusedTest::full, x -> x.write(0, 0), BAD);
        Picture.unchanged("write(9, 0)", RefusedTest::full, x -> x.write(9, 0), BAD);
        Picture.unchanged("bake(3, 0)", RefusedTest::full, x -> x.bake(3, 0), BAD);
        Picture.unchanged("bake(-1, 0)", RefusedTest::full, x -> x.bake(-1, 0), BAD);
        Picture.unchanged("bake(0, 4)", RefusedTest::full, x -> x.bake(0, 4), BAD);
        Picture.unchanged("bake(0, -1)", RefusedTest::full, x -> x.bake(0, -1), BAD);
        Picture.unchanged("bite(8)", RefusedTest::full, x -> x.bite(8), BAD);
    }

    private static void badAheadOfNone() {
        Due.sentence("Of several the first in this order, whatever the order at a call: BAD ahead of NONE");
        LoafLetters x = new LoafLetters();
        Due.due("code(2, 20, 3, 1)", x.code(2, 20, 3, 1), NONE);
        Due.due("code(2, 20, 3, 2)", x.code(2, 20, 3, 2), BAD);
        Due.due("code(2, 20, 3, -2)", x.code(2, 20, 3, -2), BAD);
        Due.due("code(3, 20, 4, 0)", x.code(3, 20, 4, 0), BAD);
        Due.due("code(3, 21, 3, 0)", x.code(3, 21, 3, 0), BAD);
        Due.due("code(4, 20, 3, 0)", x.code(4, 20, 3, 0), BAD);
        Due.due("whom(0, 20)", x.whom(0, 20), NONE);
        Due.due("whom(1, 20)", x.whom(1, 20), BAD);
        Due.due("whom(0, 21)", x.whom(0, 21), BAD);
        Due.due("told(63, 1)", x.told(63, 1), NONE);
        Due.due("told(64, 1)", x.told(64, 1), BAD);
        Due.due("told(-1, 1)", x.told(-1, 1), BAD);
        Due.due("told(0, 2)", x.told(0, 2), BAD);
        x.bake(0, 0);
        x.bite(0);
        Due.due("loaf(0, 5)", x.loaf(0, 5), NONE);
        Due.due("loaf(1, 5)", x.loaf(1, 5), BAD);
        Due.due("loaf(0, 6)", x.loaf(0, 6), BAD);
    }
}
