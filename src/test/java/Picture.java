import java.util.List;
import java.util.function.Function;
import java.util.function.Supplier;
import java.util.function.ToLongFunction;

/** What can be seen of an object through its face, so that two can be compared. */
final class Picture {
    /** Each view is taken of an object of its own, as some of them change it. */
    private static final List<Function<LoafLetters, String>> VIEWS =
        List.of(Picture::larder, Picture::valley, Picture::undone, Picture::kept, Picture::text);

    private Picture() {
    }

    /** The call answers what is due, and an object with it behind it looks as one without it. */
    static void unchanged(String call, Supplier<LoafLetters> made, ToLongFunction<LoafLetters> refused, long want) {
        for (Function<LoafLetters, String> view : VIEWS) {
            LoafLetters with = made.get();
            LoafLetters without = made.get();
            Due.due(call, refused.applyAsLong(with), want);
            Due.due(call + " again", refused.applyAsLong(with), want);
            Due.same("what stands behind " + call, view.apply(with), view.apply(without));
        }
    }

    static String larder(LoafLetters x) {
        StringBuilder seen = new StringBuilder("loaves");
        int loaves = x.count(3);
        for (int i = 0; i < loaves; i++) {
            seen.append(" (").append(x.loaf(i, 0)).append(' ').append(x.loaf(i, 1)).append(' ').append(x.loaf(i, 2))
                .append(' ').append(x.loaf(i, 3)).append(' ').append(x.loaf(i, 4)).append(')');
        }
        return seen.append(" flour ").append(x.count(4)).toString();
    }

    static String valley(LoafLetters x) {
        StringBuilder seen = new StringBuilder("words");
        for (int w = 0; w < x.count(0); w++) {
            seen.append(' ').append(x.word(w, 0)).append('/').append(x.word(w, 1));
        }
        seen.append(" losses");
        for (int d = 1; d <= 9; d++) {
            seen.append(' ').append(x.becomes(5, d, 0));
        }
        seen.append(" carriers");
        for (int c = 0; c < x.count(1); c++) {
            seen.append(' ').append(x.sent(0, c, 0, 0)).append('/').append(x.sent(0, c, 0, 1));
        }
        seen.append(" bakers ").append(x.count(2));
        for (int bit = 0; bit < 6; bit++) {
            seen.append(' ').append(x.told(1 << bit, 0));
        }
        return seen.toString();
    }

    static String undone(LoafLetters x) {
        StringBuilder seen = new StringBuilder("undone").append(x.count(5)).append(larder(x));
        for (int i = 0; i < 9; i++) {
            seen.append(" | ").append(x.undo()).append(' ');
            seen.append(larder(x));
        }
        return seen.toString();
    }

    static String kept(LoafLetters x) {
        StringBuilder seen = new StringBuilder("kept").append(x.count(6));
        for (int i = 0; i < 3; i++) {
            seen.append(" | ").append(x.back()).append(' ').append(larder(x)).append(' ').append(x.count(5));
        }
        return seen.toString();
    }

    static String text(LoafLetters x) {
        StringBuilder seen = new StringBuilder("text ").append(x.count(7)).append(' ').append(x.fault());
        seen.append(' ').append(x.lay()).append(' ').append(valley(x)).append(' ').append(x.wipe());
        return seen.toString();
    }
}
