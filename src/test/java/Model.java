import java.math.BigInteger;
import java.util.ArrayDeque;
import java.util.ArrayList;
import java.util.Arrays;
import java.util.Deque;
import java.util.HashSet;
import java.util.List;
import java.util.Set;
import java.util.regex.Matcher;
import java.util.regex.Pattern;

/** The document once more, by the slowest and plainest means and apart from the class: the random runs compare the two. */
final class Model {
    private static final int BAD = -1, NO = -2, FULL = -3, NONE = -4;
    private static final Pattern ITEM = Pattern.compile(
        "w(\\d\\d?),(\\d\\d?),(\\d\\d?),(\\d\\d?);|b(\\d\\d?),(\\d\\d?);|c(\\d\\d?),(\\d\\d?);|k(\\d\\d?);");

    /** A loaf: word, kind, days, bites. */
    private record State(List<int[]> loaves, int flour) {
        State copy() {
            List<int[]> copies = new ArrayList<>();
            loaves.forEach(l -> copies.add(l.clone()));
            return new State(copies, flour);
        }
    }

    private static final class Told {
        final List<int[]> words = new ArrayList<>();
        final List<int[]> carriers = new ArrayList<>();
        final List<Integer> bakers = new ArrayList<>();
        int birds = 2;
        int mould = 3;
    }

    private String text = "";
    private Told told = new Told();
    private State state = new State(new ArrayList<>(), 0);
    private final Deque<State> undo = new ArrayDeque<>();
    private final Deque<State> kept = new ArrayDeque<>();

    Model() {
        told.words.add(new int[] {1, 0, 0, 5});
    }

    private static boolean in(int x, int low, int high) {
        return low <= x && x <= high;
    }

    private static int number(Matcher m, int group) {
        return Integer.parseInt(m.group(group));
    }

    /** The place of the first fault or NONE; fills what is told. */
    private int parse(Told into) {
        int place = 0;
        while (place < text.length()) {
            Matcher m = ITEM.matcher(text).region(place, text.length());
            if (!m.lookingAt() || !accept(m, text.charAt(place), into)) {
                return place;
            }
            place = m.end();
        }
        return NONE;
    }

    private static boolean accept(Matcher m, char letter, Told into) {
        if (letter == 'w') {
            int[] w = {number(m, 1), number(m, 2), number(m, 3), number(m, 4)};
            boolean fresh = into.words.stream().noneMatch(o -> o[0] == w[0] && o[1] == w[1] && o[2] == w[2]);
            into.words.add(w);
            return w[0] <= 5 && w[1] <= 3 && w[2] <= 2 && fresh && into.words.size() <= 8;
        }
        if (letter == 'b') {
            into.birds = number(m, 5);
            into.mould = number(m, 6);
            return in(into.birds, 1, 9) && in(into.mould, 1, 9);
        }
        if (letter == 'c') {
            into.carriers.add(new int[] {number(m, 7), number(m, 8)});
            return number(m, 7) <= 9 && in(number(m, 8), 1, 6) && into.carriers.size() <= 5;
        }
        into.bakers.add(number(m, 9));
        return number(m, 9) <= 63 && into.bakers.size() <= 5;
    }

    int write(int n, long v) {
        if (!in(n, 1, 8)) {
            return BAD;
        }
        if (text.length() + n > 300) {
            return FULL;
        }
        byte[] all = BigInteger.valueOf(v).and(BigInteger.ONE.shiftLeft(64).subtract(BigInteger.ONE)).setBit(64).toByteArray();
        for (int i = 9 - n; i < 9; i++) {
            text += (char) (all[i] & 255);
        }
        return text.length();
    }

    int wipe() {
        int was = text.length();
        text = "";
        return was;
    }

    int fault() {
        return parse(new Told());
    }

    int lay() {
        Told next = new Told();
        if (parse(next) != NONE || next.words.isEmpty()) {
            return NO;
        }
        told = next;
        state = new State(new ArrayList<>(), 0);
        undo.clear();
        kept.clear();
        return told.words.size();
    }

    private int sign(int w) {
        int[] word = told.words.get(w);
        return word[0] + 6 * word[1] + 24 * word[2];
    }

    private static int flourOfSign(int sign) {
        return 1 + sign % 6 + 2 * (sign % 24 / 6) + 3 * (sign / 24);
    }

    private boolean isWord(int w) {
        return in(w, 0, told.words.size() - 1);
    }

    private boolean isCarrier(int c) {
        return in(c, 0, told.carriers.size() - 1);
    }

    int word(int w, int what) {
        if (!isWord(w) || !in(what, 0, 2)) {
            return BAD;
        }
        return new int[] {sign(w), told.words.get(w)[3], flourOfSign(sign(w))}[what];
    }

    private void remember() {
        undo.addLast(state.copy());
        if (undo.size() > 8) {
            undo.removeFirst();
        }
    }

    private int bakedSign(int w, int kind) {
        return sign(kind == 3 ? (w + 1) % told.words.size() : w);
    }

    int bake(int w, int kind) {
        if (!isWord(w) || !in(kind, 0, 3)) {
            return BAD;
        }
        if (state.loaves.size() == 8) {
            return FULL;
        }
        remember();
        int flour = flourOfSign(bakedSign(w, kind));
        int used = kind == 1 ? 2 * flour : kind == 2 ? flour + 2 : flour;
        state = new State(state.loaves, state.flour + used);
        state.loaves.add(new int[] {w, kind, 0, 0});
        return state.loaves.size();
    }

    /** Day by day and bite by bite. */
    private int turn(int sign, int days, int bites) {
        int s = sign % 6;
        int c = sign % 24 / 6;
        int f = sign / 24;
        for (int d = 1; d <= days; d++) {
            if (d % told.birds == 0 && s > 0) {
                s--;
            }
            if (d % told.mould == 0 && c < 3) {
                c++;
            }
        }
        for (int b = 0; b < bites; b++) {
            if (f != 0) {
                f = 0;
            } else if (s != 0) {
                s = 0;
            } else {
                c = 0;
            }
        }
        return s + 6 * c + 24 * f;
    }

    private int read(int sign) {
        for (int w = 0; w < told.words.size(); w++) {
            if (sign(w) == sign) {
                return w;
            }
        }
        return NONE;
    }

    private int signOfLoaf(int[] l) {
        return turn(bakedSign(l[0], l[1]), l[1] == 1 ? l[2] / 2 : l[2], l[1] == 2 ? 0 : l[3]);
    }

    int day() {
        remember();
        state.loaves.forEach(l -> l[2]++);
        return (int) state.loaves.stream().filter(l -> read(signOfLoaf(l)) == l[0]).count();
    }

    int bite(int i) {
        if (!in(i, 0, state.loaves.size() - 1)) {
            return BAD;
        }
        if (state.loaves.get(i)[3] == 9) {
            return FULL;
        }
        remember();
        return ++state.loaves.get(i)[3];
    }

    int take(int i) {
        if (!in(i, 0, state.loaves.size() - 1)) {
            return BAD;
        }
        remember();
        return state.loaves.remove(i)[0];
    }

    int undo() {
        if (undo.isEmpty()) {
            return NO;
        }
        state = undo.removeLast();
        return undo.size();
    }

    int loaf(int i, int what) {
        if (!in(i, 0, state.loaves.size() - 1) || !in(what, 0, 5)) {
            return BAD;
        }
        int[] l = state.loaves.get(i);
        return what < 4 ? l[what] : what == 4 ? signOfLoaf(l) : read(signOfLoaf(l));
    }

    private static boolean wrong(int sign, int d, int b) {
        return !in(sign, 0, 71) || !in(d, 0, 20) || !in(b, 0, 3);
    }

    private Set<Integer> reach(int sign, int d, int b) {
        Set<Integer> found = new HashSet<>();
        for (int days = 0; days <= d; days++) {
            for (int bites = 0; bites <= b; bites++) {
                found.add(turn(sign, days, bites));
            }
        }
        return found;
    }

    int becomes(int sign, int d, int b) {
        return wrong(sign, d, b) ? BAD : turn(sign, d, b);
    }

    int mayBe(int sign, int d, int b) {
        return wrong(sign, d, b) ? BAD : reach(sign, d, b).size();
    }

    int can(int sign, int to, int d, int b) {
        if (wrong(sign, d, b) || wrong(to, d, b)) {
            return BAD;
        }
        return reach(sign, d, b).contains(to) ? 1 : 0;
    }

    int was(int sign, int d, int b) {
        if (wrong(sign, d, b)) {
            return BAD;
        }
        int bits = 0;
        for (int w = 0; w < told.words.size(); w++) {
            bits += reach(sign(w), d, b).contains(sign) ? 1 << w : 0;
        }
        return bits;
    }

    int half(int s, int c, int f) {
        if (!in(s, 0, 5) || !in(c, 0, 3) || !in(f, 0, 2)) {
            return BAD;
        }
        int bits = 0;
        for (int w = 0; w < told.words.size(); w++) {
            int[] word = told.words.get(w);
            bits += word[0] >= s && word[1] >= c && word[2] == f ? 1 << w : 0;
        }
        return bits;
    }

    int code(int k, int d, int b, int i) {
        if (!in(k, 1, 3) || wrong(0, d, b) || !in(i, -1, k - 1)) {
            return BAD;
        }
        List<Set<Integer>> reaches = new ArrayList<>();
        for (int sign = 0; sign < 72; sign++) {
            reaches.add(reach(sign, d, b));
        }
        boolean[][] apart = new boolean[72][72];
        for (int p = 0; p < 72; p++) {
            for (int q = 0; q < 72; q++) {
                apart[p][q] = reaches.get(p).stream().noneMatch(reaches.get(q)::contains);
            }
        }
        List<int[]> sets = new ArrayList<>();
        for (int p = 0; p < 72; p++) {
            if (k == 1) {
                sets.add(new int[] {p});
            }
            for (int q = p + 1; q < 72 && k > 1; q++) {
                if (apart[p][q] && k == 2) {
                    sets.add(new int[] {p, q});
                }
                for (int r = q + 1; r < 72 && k > 2; r++) {
                    if (apart[p][q] && apart[p][r] && apart[q][r]) {
                        sets.add(new int[] {p, q, r});
                    }
                }
            }
        }
        int least = sets.stream().mapToInt(Model::flourOfSigns).min().orElse(NONE);
        if (least == NONE || i == -1) {
            return least;
        }
        return sets.stream().filter(s -> flourOfSigns(s) == least).min(Arrays::compare).orElseThrow()[i];
    }

    private static int flourOfSigns(int[] signs) {
        return Arrays.stream(signs).map(Model::flourOfSign).sum();
    }

    /** The odds over ten to the sixth, by every way of biting or not in each mile. */
    private BigInteger odds(int w, int carrier, int a) {
        int hunger = told.carriers.get(carrier)[0];
        int miles = told.carriers.get(carrier)[1];
        long sum = 0;
        for (int ways = 0; ways < 1 << miles; ways++) {
            long weight = 1;
            for (int mile = 0; mile < miles; mile++) {
                weight *= (ways >> mile & 1) == 1 ? hunger : 10 - hunger;
            }
            if (read(turn(sign(w), a, Integer.bitCount(ways))) == w) {
                sum += weight;
            }
        }
        return BigInteger.valueOf(sum).multiply(BigInteger.TEN.pow(6 - miles));
    }

    private static long part(BigInteger above, BigInteger below, int part) {
        BigInteger g = above.gcd(below);
        return (part == 0 ? above : below).divide(g).longValueExact();
    }

    int sent(int w, int carrier, int a, int part) {
        if (!isWord(w) || !isCarrier(carrier) || !in(a, 0, 20) || !in(part, 0, 1)) {
            return BAD;
        }
        return (int) part(odds(w, carrier, a), BigInteger.TEN.pow(6), part);
    }

    int whom(int w, int a) {
        if (!isWord(w) || !in(a, 0, 20)) {
            return BAD;
        }
        int best = told.carriers.isEmpty() ? NONE : 0;
        for (int c = 1; c < told.carriers.size(); c++) {
            if (odds(w, c, a).compareTo(odds(w, best, a)) > 0) {
                best = c;
            }
        }
        return best;
    }

    long two(int w, int i, int j, int a, int part) {
        if (!isWord(w) || !isCarrier(i) || !isCarrier(j) || i == j || !in(a, 0, 20) || !in(part, 0, 1)) {
            return BAD;
        }
        BigInteger below = BigInteger.TEN.pow(6);
        BigInteger p = odds(w, i, a);
        BigInteger q = odds(w, j, a);
        // p + q - pq
        return part(p.add(q).multiply(below).subtract(p.multiply(q)), below.multiply(below), part);
    }

    int said(int f, int what) {
        if (!in(f, 0, 99) || !in(what, 0, 1)) {
            return BAD;
        }
        int best = 0;
        int most = 0;
        for (int set = (1 << told.words.size()) - 1; set >= 0; set--) {
            int flour = 0;
            int worth = 0;
            for (int w = 0; w < told.words.size(); w++) {
                if ((set >> w & 1) == 1) {
                    flour += flourOfSign(sign(w));
                    worth += told.words.get(w)[3];
                }
            }
            if (flour <= f && worth >= most) {
                most = worth;
                best = set;
            }
        }
        return what == 0 ? best : most;
    }

    int told(int set, int what) {
        if (!in(set, 0, 63) || !in(what, 0, 1)) {
            return BAD;
        }
        List<Integer> who = new ArrayList<>();
        for (int k = 0; k < told.bakers.size(); k++) {
            if ((set & ~told.bakers.get(k)) == 0) {
                who.add(k);
            }
        }
        return what == 0 ? who.stream().mapToInt(k -> 1 << k).sum() : who.size() == 1 ? who.get(0) : NONE;
    }

    int month(int z, int n, int what) {
        if (!in(z, 0, 9999) || !in(n, 1, 30) || !in(what, 0, 1)) {
            return BAD;
        }
        int same = 0;
        int other = 0;
        for (int t = 0; t < n; t++) {
            BigInteger x = BigInteger.valueOf(7919L * z).add(BigInteger.valueOf(6151L * t + 1));
            int draw = x.multiply(x).mod(BigInteger.valueOf(65521)).intValueExact();
            int w = draw % told.words.size();
            int read = read(turn(sign(w), draw / 16 % 7, draw / 256 % 3));
            same += read == w ? 1 : 0;
            other += read != w && read != NONE ? 1 : 0;
        }
        return what == 0 ? same : other;
    }

    int keep() {
        if (kept.size() == 2) {
            return FULL;
        }
        kept.addLast(state.copy());
        return kept.size();
    }

    int back() {
        if (kept.isEmpty()) {
            return NO;
        }
        state = kept.removeLast();
        undo.clear();
        return kept.size();
    }

    int count(int what) {
        if (!in(what, 0, 7)) {
            return BAD;
        }
        return new int[] {told.words.size(), told.carriers.size(), told.bakers.size(), state.loaves.size(), state.flour,
            undo.size(), kept.size(), text.length()}[what];
    }
}
