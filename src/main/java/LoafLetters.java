/** Letters in bread: words of seeds, cuts and fillings, and what birds, mould and hunger make of them. */
public final class LoafLetters {
    public static final int BAD = -1, NO = -2, FULL = -3, NONE = -4;

    private static final int SIGNS = 72, SEEDS_MOST = 5, CUTS_MOST = 3, FILLING_MOST = 2;
    private static final int DAYS_MOST = 20, BITES_MOST = 3, CODE_MOST = 3;
    private static final int SOUR = 1, SEALED = 2, DECOY = 3;
    private static final int UNDO_MOST = 8, KEPT_MOST = 2;
    private static final int FLOUR_MOST = 99, SET_MOST = 63, DRAW_MOST = 9999, MONTH_MOST = 30;

    private final Text text;
    private final Reader reader;
    private final Larder larder;
    private final Shelf undoable;
    private final Shelf kept;
    private final Reach reach;
    private final CodeSearch search;
    private Valley laid;
    // A text is read into the draft, so that a faulty one leaves what is laid alone.
    private Valley draft;

    public LoafLetters() {
        text = new Text();
        reader = new Reader();
        larder = new Larder();
        undoable = new Shelf(UNDO_MOST);
        kept = new Shelf(KEPT_MOST);
        reach = new Reach();
        search = new CodeSearch(reach);
        laid = new Valley();
        draft = new Valley();
        laid.addWord(1, 0, 0, 5);
    }

    // ---- valleys

    public int write(int n, long v) {
        if (!within(n, 1, 8)) {
            return BAD;
        }
        if (!text.hasRoom(n)) {
            return FULL;
        }
        text.append(n, v);
        return text.length();
    }

    public int wipe() {
        int length = text.length();
        text.clear();
        return length;
    }

    public int fault() {
        return reader.firstFault(text, draft);
    }

    public int lay() {
        if (reader.firstFault(text, draft) != NONE || draft.words() == 0) {
            return NO;
        }
        Valley old = laid;
        laid = draft;
        draft = old;
        larder.clear();
        undoable.clear();
        kept.clear();
        return laid.words();
    }

    public int word(int w, int what) {
        if (!isWord(w)) {
            return BAD;
        }
        switch (what) {
            case 0: return laid.signOf(w);
            case 1: return laid.worthOf(w);
            case 2: return Sign.flour(laid.signOf(w));
            default: return BAD;
        }
    }

    // ---- the larder

    public int bake(int w, int kind) {
        if (!isWord(w) || !within(kind, 0, DECOY)) {
            return BAD;
        }
        if (larder.isFull()) {
            return FULL;
        }
        undoable.push(larder);
        int sign = laid.signOf(kind == DECOY ? wordBehind(w) : w);
        larder.add(w, kind, sign);
        larder.useFlour(flourOf(sign, kind));
        return larder.size();
    }

    public int day() {
        undoable.push(larder);
        larder.passDay();
        int right = 0;
        for (int i = 0; i < larder.size(); i++) {
            if (readingOf(i) == larder.part(i, Larder.WORD)) {
                right++;
            }
        }
        return right;
    }

    public int bite(int i) {
        if (!larder.holds(i)) {
            return BAD;
        }
        if (larder.part(i, Larder.BITES) >= Larder.BITES_FULL) {
            return FULL;
        }
        undoable.push(larder);
        larder.addBite(i);
        return larder.part(i, Larder.BITES);
    }

    public int take(int i) {
        if (!larder.holds(i)) {
            return BAD;
        }
        undoable.push(larder);
        int w = larder.part(i, Larder.WORD);
        larder.remove(i);
        return w;
    }

    public int undo() {
        if (undoable.size() == 0) {
            return NO;
        }
        undoable.popInto(larder);
        return undoable.size();
    }

    public int loaf(int i, int what) {
        if (!larder.holds(i)) {
            return BAD;
        }
        switch (what) {
            case 0: return larder.part(i, Larder.WORD);
            case 1: return larder.part(i, Larder.KIND);
            case 2: return larder.part(i, Larder.DAYS);
            case 3: return larder.part(i, Larder.BITES);
            case 4: return signNow(i);
            case 5: return readingOf(i);
            default: return BAD;
        }
    }

    // ---- signs

    public int becomes(int sign, int d, int b) {
        if (!isSign(sign) || !isLoss(d, b)) {
            return BAD;
        }
        return laid.turned(sign, d, b);
    }

    public int mayBe(int sign, int d, int b) {
        if (!isSign(sign) || !isLoss(d, b)) {
            return BAD;
        }
        reach.fill(laid, sign, d, b);
        return reach.sizeOf(sign);
    }

    public int can(int sign, int to, int d, int b) {
        if (!isSign(sign) || !isSign(to) || !isLoss(d, b)) {
            return BAD;
        }
        reach.fill(laid, sign, d, b);
        return reach.holds(sign, to) ? 1 : 0;
    }

    public int was(int sign, int d, int b) {
        if (!isSign(sign) || !isLoss(d, b)) {
            return BAD;
        }
        int set = 0;
        for (int w = 0; w < laid.words(); w++) {
            reach.fill(laid, laid.signOf(w), d, b);
            if (reach.holds(laid.signOf(w), sign)) {
                set |= 1 << w;
            }
        }
        return set;
    }

    public int half(int s, int c, int f) {
        if (!within(s, 0, SEEDS_MOST) || !within(c, 0, CUTS_MOST) || !within(f, 0, FILLING_MOST)) {
            return BAD;
        }
        int set = 0;
        for (int w = 0; w < laid.words(); w++) {
            int sign = laid.signOf(w);
            if (Sign.seeds(sign) >= s && Sign.cuts(sign) >= c && Sign.filling(sign) == f) {
                set |= 1 << w;
            }
        }
        return set;
    }

    public int code(int k, int d, int b, int i) {
        if (!within(k, 1, CODE_MOST) || !isLoss(d, b) || !within(i, -1, k - 1)) {
            return BAD;
        }
        if (!search.find(laid, k, d, b)) {
            return NONE;
        }
        return i == -1 ? search.leastFlour() : search.signAt(i);
    }

    // ---- carriers, flour, bakers

    public int sent(int w, int carrier, int a, int part) {
        if (!isWord(w) || !isCarrier(carrier) || !isAge(a) || !isChoice(part)) {
            return BAD;
        }
        long below = Odds.power(10, laid.milesOf(carrier));
        return (int) Odds.lowest(laid.waysRead(w, carrier, a), below, part);
    }

    public int whom(int w, int a) {
        if (!isWord(w) || !isAge(a)) {
            return BAD;
        }
        int best = NONE;
        long most = -1;
        for (int carrier = 0; carrier < laid.carriers(); carrier++) {
            // All odds are brought to one denominator, that of the longest way.
            long scale = Odds.power(10, Valley.MILES_MOST - laid.milesOf(carrier));
            long odds = laid.waysRead(w, carrier, a) * scale;
            if (odds > most) {
                most = odds;
                best = carrier;
            }
        }
        return best;
    }

    public long two(int w, int i, int j, int a, int part) {
        if (!isWord(w) || !isCarrier(i) || !isCarrier(j) || i == j || !isAge(a) || !isChoice(part)) {
            return BAD;
        }
        long belowI = Odds.power(10, laid.milesOf(i));
        long belowJ = Odds.power(10, laid.milesOf(j));
        long bothFail = (belowI - laid.waysRead(w, i, a)) * (belowJ - laid.waysRead(w, j, a));
        long below = belowI * belowJ;
        return Odds.lowest(below - bothFail, below, part);
    }

    public int said(int f, int what) {
        if (!within(f, 0, FLOUR_MOST) || !isChoice(what)) {
            return BAD;
        }
        int best = 0;
        int most = 0;
        for (int set = 1; set < 1 << laid.words(); set++) {
            int worth = laid.worthOfSet(set);
            if (worth > most && laid.flourOfSet(set) <= f) {
                most = worth;
                best = set;
            }
        }
        return what == 0 ? best : most;
    }

    public int told(int set, int what) {
        if (!within(set, 0, SET_MOST) || !isChoice(what)) {
            return BAD;
        }
        int bakers = laid.bakersKnowing(set);
        if (what == 0) {
            return bakers;
        }
        return Integer.bitCount(bakers) == 1 ? Integer.numberOfTrailingZeros(bakers) : NONE;
    }

    public int month(int z, int n, int what) {
        if (!within(z, 0, DRAW_MOST) || !within(n, 1, MONTH_MOST) || !isChoice(what)) {
            return BAD;
        }
        int words = laid.words();
        int found = 0;
        for (int t = 0; t < n; t++) {
            int draw = drawOf(z, t);
            int w = words > 0 ? draw % words : 0;
            int read = laid.readAs(laid.turned(laid.signOf(w), draw / 16 % 7, draw / 256 % 3));
            if (what == 0 ? read == w : read != w && read != NONE) {
                found++;
            }
        }
        return found;
    }

    public int keep() {
        if (kept.isFull()) {
            return FULL;
        }
        kept.push(larder);
        return kept.size();
    }

    public int back() {
        if (kept.size() == 0) {
            return NO;
        }
        kept.popInto(larder);
        undoable.clear();
        return kept.size();
    }

    public int count(int what) {
        switch (what) {
            case 0: return laid.words();
            case 1: return laid.carriers();
            case 2: return laid.bakers();
            case 3: return larder.size();
            case 4: return larder.flour();
            case 5: return undoable.size();
            case 6: return kept.size();
            case 7: return text.length();
            default: return BAD;
        }
    }

    // ---- which numbers are told

    private static boolean within(int x, int low, int high) {
        return x >= low && x <= high;
    }

    private static boolean isSign(int sign) {
        return within(sign, 0, SIGNS - 1);
    }

    private static boolean isAge(int days) {
        return within(days, 0, DAYS_MOST);
    }

    private static boolean isLoss(int days, int bites) {
        return isAge(days) && within(bites, 0, BITES_MOST);
    }

    private static boolean isChoice(int what) {
        return within(what, 0, 1);
    }

    private boolean isWord(int w) {
        return within(w, 0, laid.words() - 1);
    }

    private boolean isCarrier(int carrier) {
        return within(carrier, 0, laid.carriers() - 1);
    }

    // ---- loaves

    private int wordBehind(int w) {
        return w + 1 < laid.words() ? w + 1 : 0;
    }

    private static int flourOf(int sign, int kind) {
        int flour = Sign.flour(sign);
        if (kind == SOUR) {
            return 2 * flour;
        }
        return kind == SEALED ? flour + 2 : flour;
    }

    private int signNow(int i) {
        int kind = larder.part(i, Larder.KIND);
        int days = larder.part(i, Larder.DAYS);
        int bites = larder.part(i, Larder.BITES);
        return laid.turned(larder.part(i, Larder.SIGN), kind == SOUR ? days / 2 : days, kind == SEALED ? 0 : bites);
    }

    private int readingOf(int i) {
        return laid.readAs(signNow(i));
    }

    private static int drawOf(int z, int t) {
        long x = 7919L * z + 6151L * t + 1;
        return (int) (x * x % 65521);
    }

    private static int at(int[] row, int i) {
        return i >= 0 && i < row.length ? row[i] : 0;
    }

    /** The arithmetic of one sign: seeds, cuts and filling in one number. */
    private static final class Sign {
        static int of(int seeds, int cuts, int filling) {
            return seeds + 6 * cuts + 24 * filling;
        }

        static int seeds(int sign) {
            return sign % 6;
        }

        static int cuts(int sign) {
            return sign / 6 % 4;
        }

        static int filling(int sign) {
            return sign / 24;
        }

        static int flour(int sign) {
            return 1 + seeds(sign) + 2 * cuts(sign) + 3 * filling(sign);
        }

        static int bitten(int sign) {
            if (filling(sign) > 0) {
                return of(seeds(sign), cuts(sign), 0);
            }
            return seeds(sign) > 0 ? of(0, cuts(sign), 0) : 0;
        }
    }

    /** Odds as two whole numbers. */
    private static final class Odds {
        // Euclid's steps for numbers below 2^63 are fewer than this.
        private static final int STEPS_MOST = 100;

        static long power(long base, int exponent) {
            long product = 1;
            for (int i = 0; i < exponent; i++) {
                product *= base;
            }
            return product;
        }

        static long choose(int n, int m) {
            long ways = 1;
            for (int i = 0; i < m; i++) {
                ways = ways * (n - i) / (i + 1);
            }
            return ways;
        }

        static long lowest(long above, long below, int part) {
            long divisor = commonDivisor(above, below);
            long whole = part == 0 ? above : below;
            return divisor > 0 ? whole / divisor : whole;
        }

        private static long commonDivisor(long a, long b) {
            long x = a;
            long y = b;
            for (int i = 0; i < STEPS_MOST && y != 0; i++) {
                long rest = x % y;
                x = y;
                y = rest;
            }
            return x;
        }
    }

    /** The bytes that were written. */
    private static final class Text {
        static final int MOST = 300, END = -1;
        private final byte[] bytes = new byte[MOST];
        private int length;

        int length() {
            return length;
        }

        void clear() {
            length = 0;
        }

        boolean hasRoom(int n) {
            return length + n <= MOST;
        }

        void append(int n, long v) {
            for (int i = n - 1; i >= 0; i--) {
                if (length >= 0 && length < bytes.length) {
                    bytes[length] = (byte) (v >>> (8 * i));
                    length++;
                }
            }
        }

        int byteAt(int place) {
            return place >= 0 && place < length && place < bytes.length ? bytes[place] & 255 : END;
        }
    }

    /** Reads a text into a valley, item by item. */
    private static final class Reader {
        private final int[] numbers = new int[4];
        private int place;

        int firstFault(Text text, Valley valley) {
            valley.clear();
            place = 0;
            for (int items = 0; items < Text.MOST && place < text.length(); items++) {
                int start = place;
                if (!readItem(text, valley)) {
                    return start;
                }
            }
            return NONE;
        }

        private boolean readItem(Text text, Valley valley) {
            int letter = text.byteAt(place);
            place++;
            switch (letter) {
                case 'w':
                    return readNumbers(text, 4) && valley.addWord(numbers[0], numbers[1], numbers[2], numbers[3]);
                case 'b':
                    return readNumbers(text, 2) && valley.setLosses(numbers[0], numbers[1]);
                case 'c':
                    return readNumbers(text, 2) && valley.addCarrier(numbers[0], numbers[1]);
                case 'k':
                    return readNumbers(text, 1) && valley.addBaker(numbers[0]);
                default:
                    return false;
            }
        }

        private boolean readNumbers(Text text, int n) {
            for (int i = 0; i < n && i < numbers.length; i++) {
                int number = readNumber(text);
                int behind = text.byteAt(place);
                place++;
                if (number == NONE || behind != (i == n - 1 ? ';' : ',')) {
                    return false;
                }
                numbers[i] = number;
            }
            return true;
        }

        private int readNumber(Text text) {
            int first = text.byteAt(place);
            if (!isFigure(first)) {
                return NONE;
            }
            place++;
            int second = text.byteAt(place);
            if (!isFigure(second)) {
                return first - '0';
            }
            place++;
            return 10 * (first - '0') + second - '0';
        }

        private static boolean isFigure(int sign) {
            return within(sign, '0', '9');
        }
    }

    /** What a text tells: words, losses, carriers and bakers. */
    private static final class Valley {
        static final int WORDS_MOST = 8, CARRIERS_MOST = 5, BAKERS_MOST = 5, MILES_MOST = 6;
        private final int[] signs = new int[WORDS_MOST];
        private final int[] worths = new int[WORDS_MOST];
        private final int[] hungers = new int[CARRIERS_MOST];
        private final int[] miles = new int[CARRIERS_MOST];
        private final int[] knowledge = new int[BAKERS_MOST];
        private int words;
        private int carriers;
        private int bakers;
        private int birds;
        private int mould;

        Valley() {
            birds = 2;
            mould = 3;
        }

        void clear() {
            words = 0;
            carriers = 0;
            bakers = 0;
            birds = 2;
            mould = 3;
        }

        boolean addWord(int s, int c, int f, int worth) {
            if (!within(s, 0, SEEDS_MOST) || !within(c, 0, CUTS_MOST) || !within(f, 0, FILLING_MOST)) {
                return false;
            }
            int sign = Sign.of(s, c, f);
            if (!within(worth, 0, 99) || !within(words, 0, WORDS_MOST - 1) || readAs(sign) != NONE) {
                return false;
            }
            signs[words] = sign;
            worths[words] = worth;
            words++;
            return true;
        }

        boolean setLosses(int b, int m) {
            if (!within(b, 1, 9) || !within(m, 1, 9)) {
                return false;
            }
            birds = b;
            mould = m;
            return true;
        }

        boolean addCarrier(int hunger, int way) {
            if (!within(hunger, 0, 9) || !within(way, 1, MILES_MOST) || !within(carriers, 0, CARRIERS_MOST - 1)) {
                return false;
            }
            hungers[carriers] = hunger;
            miles[carriers] = way;
            carriers++;
            return true;
        }

        boolean addBaker(int known) {
            if (!within(known, 0, SET_MOST) || !within(bakers, 0, BAKERS_MOST - 1)) {
                return false;
            }
            knowledge[bakers] = known;
            bakers++;
            return true;
        }

        int words() {
            return words;
        }

        int carriers() {
            return carriers;
        }

        int bakers() {
            return bakers;
        }

        int signOf(int w) {
            return at(signs, w);
        }

        int worthOf(int w) {
            return at(worths, w);
        }

        int milesOf(int carrier) {
            return at(miles, carrier);
        }

        int readAs(int sign) {
            for (int w = 0; w < words; w++) {
                if (signOf(w) == sign) {
                    return w;
                }
            }
            return NONE;
        }

        int aged(int sign, int days) {
            int seeds = birds > 0 ? Sign.seeds(sign) - days / birds : 0;
            int cuts = mould > 0 ? Sign.cuts(sign) + days / mould : 0;
            return Sign.of(Math.max(seeds, 0), Math.min(cuts, CUTS_MOST), Sign.filling(sign));
        }

        int turned(int sign, int days, int bites) {
            int turned = aged(sign, days);
            for (int i = 0; i < bites; i++) {
                turned = Sign.bitten(turned);
            }
            return turned;
        }

        /** Of the ways (ten to the miles) that a carrier may bite, those behind which the word is still read. */
        long waysRead(int w, int carrier, int days) {
            int way = milesOf(carrier);
            int hunger = at(hungers, carrier);
            long ways = 0;
            for (int bites = 0; bites <= way; bites++) {
                if (turned(signOf(w), days, bites) == signOf(w)) {
                    ways += Odds.choose(way, bites) * Odds.power(hunger, bites) * Odds.power(10 - hunger, way - bites);
                }
            }
            return ways;
        }

        int worthOfSet(int set) {
            int sum = 0;
            for (int w = 0; w < words; w++) {
                sum += (set >> w & 1) * worthOf(w);
            }
            return sum;
        }

        int flourOfSet(int set) {
            int sum = 0;
            for (int w = 0; w < words; w++) {
                sum += (set >> w & 1) * Sign.flour(signOf(w));
            }
            return sum;
        }

        int bakersKnowing(int set) {
            int found = 0;
            for (int k = 0; k < bakers; k++) {
                if ((at(knowledge, k) & set) == set) {
                    found |= 1 << k;
                }
            }
            return found;
        }
    }

    /** The loaves that stand, and the flour used, in one row of numbers so that it is copied at once. */
    private static final class Larder {
        static final int WORD = 0, KIND = 1, DAYS = 2, BITES = 3, SIGN = 4;
        static final int BITES_FULL = 9;
        private static final int PLACES = 8, PARTS = 5, SIZE = PLACES * PARTS, FLOUR = SIZE + 1;
        static final int CELLS = FLOUR + 1;
        private final int[] cells = new int[CELLS];

        int size() {
            return cells[SIZE];
        }

        int flour() {
            return cells[FLOUR];
        }

        boolean isFull() {
            return size() >= PLACES;
        }

        boolean holds(int i) {
            return within(i, 0, size() - 1) && i < PLACES;
        }

        int part(int i, int part) {
            return holds(i) && within(part, 0, PARTS - 1) ? at(cells, i * PARTS + part) : 0;
        }

        void clear() {
            cells[SIZE] = 0;
            cells[FLOUR] = 0;
        }

        void useFlour(int flour) {
            cells[FLOUR] += flour;
        }

        void add(int w, int kind, int sign) {
            if (isFull()) {
                return;
            }
            int i = size();
            cells[SIZE] = i + 1;
            change(i, WORD, w);
            change(i, KIND, kind);
            change(i, DAYS, 0);
            change(i, BITES, 0);
            change(i, SIGN, sign);
        }

        void addBite(int i) {
            change(i, BITES, part(i, BITES) + 1);
        }

        void passDay() {
            for (int i = 0; i < size(); i++) {
                change(i, DAYS, part(i, DAYS) + 1);
            }
        }

        void remove(int i) {
            if (!holds(i)) {
                return;
            }
            for (int next = i + 1; next < size(); next++) {
                for (int part = 0; part < PARTS; part++) {
                    change(next - 1, part, part(next, part));
                }
            }
            cells[SIZE] = size() - 1;
        }

        void copyTo(int[] row, int from) {
            if (within(from, 0, row.length - CELLS)) {
                System.arraycopy(cells, 0, row, from, CELLS);
            }
        }

        void copyFrom(int[] row, int from) {
            if (within(from, 0, row.length - CELLS)) {
                System.arraycopy(row, from, cells, 0, CELLS);
            }
        }

        private void change(int i, int part, int value) {
            if (holds(i) && within(part, 0, PARTS - 1)) {
                cells[i * PARTS + part] = value;
            }
        }
    }

    /** Larders as they were, the latest on top; of a full shelf the oldest goes. */
    private static final class Shelf {
        private final int depth;
        private final int[] row;
        private int size;

        Shelf(int depth) {
            this.depth = Math.max(depth, 1);
            row = new int[this.depth * Larder.CELLS];
        }

        int size() {
            return size;
        }

        boolean isFull() {
            return size >= depth;
        }

        void clear() {
            size = 0;
        }

        void push(Larder larder) {
            if (isFull()) {
                dropOldest();
            }
            larder.copyTo(row, size * Larder.CELLS);
            size++;
        }

        void popInto(Larder larder) {
            if (size > 0) {
                size--;
                larder.copyFrom(row, size * Larder.CELLS);
            }
        }

        private void dropOldest() {
            int rest = row.length - Larder.CELLS;
            if (rest >= 0) {
                System.arraycopy(row, Larder.CELLS, row, 0, rest);
            }
            size--;
        }
    }

    /** For each sign the signs that it can have, as bits: those below 64, and the others. */
    private static final class Reach {
        private final long[] low = new long[SIGNS];
        private final long[] high = new long[SIGNS];

        void fill(Valley valley, int sign, int days, int bites) {
            if (!isSign(sign)) {
                return;
            }
            low[sign] = 0;
            high[sign] = 0;
            int before = NONE;
            for (int d = 0; d <= days; d++) {
                int aged = valley.aged(sign, d);
                // Most days change nothing, and then their bites add nothing either.
                if (aged != before) {
                    markBitten(sign, aged, bites);
                    before = aged;
                }
            }
        }

        private void markBitten(int sign, int aged, int bites) {
            int turned = aged;
            mark(sign, turned);
            for (int b = 0; b < bites; b++) {
                turned = Sign.bitten(turned);
                mark(sign, turned);
            }
        }

        int sizeOf(int sign) {
            return isSign(sign) ? Long.bitCount(low[sign]) + Long.bitCount(high[sign]) : 0;
        }

        boolean holds(int sign, int to) {
            if (!isSign(sign) || !isSign(to)) {
                return false;
            }
            long bits = to < 64 ? low[sign] : high[sign];
            return (bits >>> (to & 63) & 1) == 1;
        }

        boolean meet(int sign, int other) {
            return isSign(sign) && isSign(other)
                && ((low[sign] & low[other]) != 0 || (high[sign] & high[other]) != 0);
        }

        private void mark(int sign, int turned) {
            if (!isSign(sign)) {
                return;
            }
            if (turned < 64) {
                low[sign] |= 1L << turned;
            } else {
                high[sign] |= 1L << (turned - 64);
            }
        }
    }

    /** Looks for the signs of least flour that stay apart. */
    private static final class CodeSearch {
        private final Reach reach;
        private final int[] chosen = new int[CODE_MOST];
        private final int[] best = new int[CODE_MOST];
        private int wanted;
        private int least;

        CodeSearch(Reach reach) {
            this.reach = reach;
        }

        boolean find(Valley valley, int k, int days, int bites) {
            for (int sign = 0; sign < SIGNS; sign++) {
                reach.fill(valley, sign, days, bites);
            }
            wanted = k;
            least = Integer.MAX_VALUE;
            extend(0, 0, 0);
            return least != Integer.MAX_VALUE;
        }

        int leastFlour() {
            return least;
        }

        int signAt(int i) {
            return at(best, i);
        }

        // Sets come in their order, so that only one of less flour takes the place of the first.
        private void extend(int depth, int from, int flour) {
            if (depth < 0 || depth >= wanted || depth >= chosen.length) {
                System.arraycopy(chosen, 0, best, 0, CODE_MOST);
                least = flour;
                return;
            }
            for (int sign = from; sign < SIGNS; sign++) {
                int sum = flour + Sign.flour(sign);
                if (sum < least && staysApart(sign, depth)) {
                    chosen[depth] = sign;
                    extend(depth + 1, sign + 1, sum);
                }
            }
        }

        private boolean staysApart(int sign, int depth) {
            for (int i = 0; i < depth; i++) {
                if (reach.meet(sign, at(chosen, i))) {
                    return false;
                }
            }
            return true;
        }
    }
}
