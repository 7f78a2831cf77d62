import java.util.Arrays;

/**
 * A small field on which polynomials act by sums of powers. The project's document
 * tells every answer; the words in capitals here are its terms.
 */
public final class TimesByPowers {
    public static final int NONE = -1000000, BAD = -1000001, FULL = -1000003;

    private static final int FINDINGS = -1000010;
    private static final int NULL = 1, PLACE = 2, KIND = 3, SIZE = 4, STORE = 5;

    private static final int ROWS = 8, LANES = 3, MOST_ITEMS = 24;
    private static final int PLACES = 10, KINDS = 5;
    private static final int MOST_R = 3, MOST_L = 4, MOST_BACK = 4;
    private static final int MOST_N = 6, MOST_DEGREE = 6;
    private static final int MOST_EXPONENT = 100000;
    private static final int FINE = 0;

    private final Field elements;
    private final Sums sums;
    private final Action action;
    private final Row[] rows = new Row[ROWS];
    private final World[] shelf = new World[PLACES];
    private final Trace steps = new Trace();
    private final int[] taken = new int[MOST_L + 1];
    private int latest = 0;

    public TimesByPowers(int p, int n) {
        elements = new Field(p == 3 || p == 5 ? p : 2, Math.max(1, Math.min(MOST_N, n)));
        Span span = new Span(elements);
        sums = new Sums(elements, span);
        action = new Action(elements, span);
        for (int i = 0; i < ROWS; i++) {
            rows[i] = new Row();
        }
    }

    // ---- rows

    public int row(int row, int lane, int n) {
        if (!isRow(row) || lane < 0 || lane >= LANES || n > MOST_ITEMS) {
            return BAD;
        }
        if (n < 0) {
            return found(SIZE);
        }
        rows[row].begin(lane, n);
        return fine(n);
    }

    public int set(int row, int i, int v) {
        if (!isRow(row)) {
            return BAD;
        }
        Row at = rows[row];
        if (at.isMissing()) {
            return found(NULL);
        }
        if (!at.hasItems(i, 1)) {
            return found(PLACE);
        }
        return fine(at.put(i, v));
    }

    public int copy(int a, int i, int b, int j, int n) {
        if (!isRow(a) || !isRow(b)) {
            return BAD;
        }
        Row from = rows[a];
        Row to = rows[b];
        if (from.isMissing() || to.isMissing()) {
            return found(NULL);
        }
        if (from.lane != to.lane) {
            return found(STORE);
        }
        if (!from.hasItems(i, n) || !to.hasItems(j, n)) {
            return found(PLACE);
        }
        System.arraycopy(from.items, i, to.items, j, n);
        return fine(n);
    }

    public int drop(int row) {
        if (!isRow(row)) {
            return BAD;
        }
        if (rows[row].isMissing()) {
            return found(NULL);
        }
        return fine(rows[row].end());
    }

    // ---- the field

    public int field(int a, int b, int what) {
        if (!elements.has(a) || what < 0 || what > 3) {
            return BAD;
        }
        if (what == 2) {
            return b < 0 || b > MOST_EXPONENT ? BAD : elements.power(a, b);
        }
        if (!elements.has(b)) {
            return BAD;
        }
        if (what == 0) {
            return elements.plusTimes(a, 1, b);
        }
        if (what == 1) {
            return elements.times(a, b);
        }
        return b == 0 ? NONE : elements.times(a, elements.inverse(b));
    }

    // ---- worlds (places: of THE SHELF; all tell the KIND of what a place has then)

    public int world(int place, int row, int i, int r) {
        if (!isPlace(place) || !isRow(row) || r < 1 || r > MOST_R) {
            return BAD;
        }
        int refusal = take(row, i, r);
        if (refusal != FINE) {
            return refusal;
        }
        int[] t = new int[MOST_R + 1];
        System.arraycopy(taken, 0, t, 0, r + 1);
        return shelve(place, sums.worldOf(t, r));
    }

    public int turn(int to, int place, int c) {
        if (!isPlace(to) || !isPlace(place) || c == 0 || !elements.has(c)) {
            return BAD;
        }
        World from = shelf[place];
        if (from == null) {
            return found(NULL);
        }
        return shelve(to, sums.worldOf(sums.turned(from, c), from.r));
    }

    public int map(int to, int place, int row, int i, int l) {
        if (!isPlace(to) || !isPlace(place) || !isRow(row) || l < 1 || l > MOST_L) {
            return BAD;
        }
        World from = shelf[place];
        int refusal = takeMap(from, row, i, l);
        if (refusal != FINE) {
            return refusal;
        }
        if (!sums.leads(from, taken, l)) {
            return fine(NONE);
        }
        int[] t = Arrays.copyOf(sums.quotient, MOST_R + 1);
        return shelve(to, sums.worldOf(t, from.r));
    }

    public int clear(int place) {
        if (!isPlace(place)) {
            return BAD;
        }
        int had = shelf[place] == null ? 0 : 1;
        shelf[place] = null;
        return had;
    }

    // ---- asked

    public int told(int place, int what) {
        if (!isPlace(place) || what < 0 || what > 9) {
            return BAD;
        }
        World at = shelf[place];
        if (at == null) {
            return found(NULL);
        }
        if (what == 9) {
            return at instanceof Pair pair ? fine(pair.mark) : found(KIND);
        }
        return fine(tellOf(at, what));
    }

    public int acts(int place, int a, int z) {
        if (!isPlace(place) || !elements.hasPolynomial(a) || !elements.has(z)) {
            return BAD;
        }
        World at = shelf[place];
        return at == null ? found(NULL) : fine(action.imageOf(at, a, z));
    }

    public int sum(int place, int a, int k) {
        if (!isPlace(place) || !elements.hasPolynomial(a) || k < -1) {
            return BAD;
        }
        World at = shelf[place];
        if (at == null) {
            return found(NULL);
        }
        int length = sums.lengthOf(at, a);
        if (k == -1) {
            return fine(length);
        }
        return fine(k > length ? 0 : sums.numberOf(at, a, k));
    }

    public int order(int place, int z) {
        if (!isPlace(place) || !elements.has(z)) {
            return BAD;
        }
        World at = shelf[place];
        return at == null ? found(NULL) : fine(action.orderOf(at, z));
    }

    public int kernel(int place, int a, int i) {
        if (!isPlace(place) || !elements.hasPolynomial(a)) {
            return BAD;
        }
        World at = shelf[place];
        if (at == null) {
            return found(NULL);
        }
        int size = action.kernelSize(at, a);
        if (i == NONE) {
            return fine(size);
        }
        return fine(i < 0 || i >= size ? NONE : action.kernelItem(i));
    }

    public int back(int place, int row, int i, int l, int k) {
        if (!isPlace(place) || !isRow(row) || l < 1 || l > MOST_L || k < -2) {
            return BAD;
        }
        World at = shelf[place];
        int refusal = takeMap(at, row, i, l);
        if (refusal != FINE) {
            return refusal;
        }
        int polynomial = sums.wayBack(at, taken, l);
        if (polynomial == 0) {
            return fine(NONE);
        }
        if (k == -2) {
            return fine(polynomial);
        }
        int length = sums.lengthOf(at, polynomial) - l;
        if (k == -1) {
            return fine(length);
        }
        return fine(k > length ? 0 : sums.quotient[k]);
    }

    public int alike(int a, int b) {
        if (!isPlace(a) || !isPlace(b)) {
            return BAD;
        }
        World one = shelf[a];
        World other = shelf[b];
        if (one == null || other == null) {
            return found(NULL);
        }
        return fine(sums.turnsFromTo(one, other) > 0 ? 1 : 0);
    }

    public int stays(int place) {
        if (!isPlace(place)) {
            return BAD;
        }
        World at = shelf[place];
        return at == null ? found(NULL) : fine(sums.turnsFromTo(at, at));
    }

    public int kind(int place) {
        if (!isPlace(place)) {
            return BAD;
        }
        World at = shelf[place];
        return at == null ? found(NULL) : fine(at.kindTold());
    }

    public int is(int place, int kind) {
        if (!isPlace(place) || !isKind(kind)) {
            return BAD;
        }
        return isOf(shelf[place], kind) ? 1 : 0;
    }

    public int as(int place, int kind) {
        if (!isPlace(place) || !isKind(kind)) {
            return BAD;
        }
        World at = shelf[place];
        if (at == null) {
            return found(NULL);
        }
        return isOf(at, kind) ? fine(at.r) : found(KIND);
    }

    public int ask(int place, int what) {
        if (!isPlace(place) || what < 0 || what > 1) {
            return BAD;
        }
        steps.empty();
        World at = shelf[place];
        if (at == null) {
            return found(NULL);
        }
        return fine(what == 0 ? at.sizeAsked(steps) : at.signAsked(steps));
    }

    public int trace(int i) {
        return steps.has(i) ? steps.numbers[i] : NONE;
    }

    public int count(int what) {
        switch (what) {
            case 0: return rowsThere();
            case 1: return worldsOf(World.ANY);
            case 2: return worldsOf(World.LINE);
            case 3: return worldsOf(World.PAIR);
            case 4: return worldsOf(World.STEEP);
            case 5: return worldsOf(World.DEEP);
            case 6: return elements.size;
            case 7: return elements.modulus;
            default: return BAD;
        }
    }

    public int status() {
        return latest;
    }

    // ---- what the calls share

    private static boolean isRow(int row) {
        return row >= 0 && row < ROWS;
    }

    private static boolean isPlace(int place) {
        return place >= 0 && place < PLACES;
    }

    private static boolean isKind(int kind) {
        return kind >= 0 && kind < KINDS;
    }

    private static boolean isOf(World at, int kind) {
        switch (kind) {
            case World.ANY: return at != null;
            case World.LINE: return at instanceof Line;
            case World.PAIR: return at instanceof Pair;
            case World.STEEP: return at instanceof Steep;
            case World.DEEP: return at instanceof Deep;
            default: return false;
        }
    }

    private int found(int finding) {
        latest = finding;
        return FINDINGS - finding;
    }

    private int fine(int answer) {
        latest = 0;
        return answer;
    }

    /** Numbers 0 to last of a SUM OF POWERS from a ROW into taken: FINE, or the refusal. */
    private int take(int row, int i, int last) {
        Row from = rows[row];
        if (from.isMissing()) {
            return found(NULL);
        }
        if (!from.hasItems(i, last + 1)) {
            return found(PLACE);
        }
        for (int k = 0; k <= last; k++) {
            taken[k] = from.items[i + k];
            if (!elements.has(taken[k])) {
                return BAD;
            }
        }
        return taken[last] == 0 ? BAD : FINE;
    }

    private int takeMap(World at, int row, int i, int l) {
        if (at == null) {
            return found(NULL);
        }
        int refusal = take(row, i, l);
        return refusal == FINE && taken[0] == 0 ? BAD : refusal;
    }

    private int shelve(int place, World made) {
        shelf[place] = made;
        return fine(made.kindTold());
    }

    private int tellOf(World at, int what) {
        switch (what) {
            case 0: return at.r;
            case 5: return at.own;
            case 6: return sums.heightOf(at);
            case 7: return action.wholeOf(at);
            case 8: return action.leastOf(at);
            default: return what >= 1 && what <= MOST_R + 1 ? at.t[what - 1] : BAD;
        }
    }

    private int rowsThere() {
        int there = 0;
        for (int i = 0; i < ROWS; i++) {
            there += rows[i].isMissing() ? 0 : 1;
        }
        return there;
    }

    private int worldsOf(int kind) {
        int there = 0;
        for (int i = 0; i < PLACES; i++) {
            there += isOf(shelf[i], kind) ? 1 : 0;
        }
        return there;
    }

    /** A ROW; its items are made once, however often the ROW is dropped and begun anew. */
    private static final class Row {
        private static final int MISSING = -1;

        final int[] items = new int[MOST_ITEMS];
        int lane = 0;
        private int size = MISSING;

        boolean isMissing() {
            return size == MISSING;
        }

        /** Asked by what is left of the size, since a sum of i and n could wrap around. */
        boolean hasItems(int i, int n) {
            return i >= 0 && n >= 0 && i <= size && n <= size - i;
        }

        void begin(int newLane, int n) {
            Arrays.fill(items, 0);
            lane = newLane;
            size = n;
        }

        int put(int i, int v) {
            items[i] = lane == 0 ? (byte) v : lane == 1 ? (short) v : v;
            return items[i];
        }

        int end() {
            int had = size;
            size = MISSING;
            return had;
        }
    }

    /** THE TRACE. */
    private static final class Trace {
        private static final int MOST = 16;

        final int[] numbers = new int[MOST];
        private int left = 0;

        void empty() {
            left = 0;
        }

        void leave(int body) {
            if (left < MOST) {
                numbers[left] = body;
                left++;
            }
        }

        boolean has(int i) {
            return i >= 0 && i < left;
        }
    }

    /** A WORLD; its class is the KIND as it is told, so that each ASK finds its BODY by it. */
    private abstract static class World {
        static final int ANY = 0, LINE = 1, PAIR = 2, STEEP = 3, DEEP = 4;

        final int[] t;
        final int r;
        final int own;
        final int d;

        World(int[] t, int r, int own, int d) {
            this.t = t;
            this.r = r;
            this.own = own;
            this.d = d;
        }

        abstract int kindTold();

        int sizeAsked(Trace steps) {
            steps.leave(10);
            return r;
        }

        int signAsked(Trace steps) {
            steps.leave(20);
            return t[0];
        }
    }

    private static final class Line extends World {
        Line(int[] t, int own, int d) {
            super(t, 1, own, d);
        }

        int kindTold() {
            return LINE;
        }

        int signAsked(Trace steps) {
            steps.leave(23);
            int lent = super.signAsked(steps);
            return lent + sizeAsked(steps);
        }
    }

    private static class Pair extends World {
        final int mark;

        Pair(int[] t, int own, int d, int mark) {
            super(t, 2, own, d);
            this.mark = mark;
        }

        int kindTold() {
            return PAIR;
        }

        int sizeAsked(Trace steps) {
            steps.leave(11);
            return super.sizeAsked(steps) + 10;
        }

        int signAsked(Trace steps) {
            steps.leave(21);
            return super.signAsked(steps) + mark;
        }
    }

    private static final class Steep extends Pair {
        Steep(Pair same) {
            super(same.t, same.own, same.d, same.mark);
        }

        int kindTold() {
            return STEEP;
        }

        int sizeAsked(Trace steps) {
            steps.leave(12);
            return super.sizeAsked(steps) * 2;
        }

        int signAsked(Trace steps) {
            steps.leave(22);
            return super.signAsked(steps) + d;
        }
    }

    private static final class Deep extends World {
        Deep(int[] t, int own, int d) {
            super(t, 3, own, d);
        }

        int kindTold() {
            return DEEP;
        }

        int sizeAsked(Trace steps) {
            steps.leave(13);
            int lent = super.sizeAsked(steps);
            return lent + signAsked(steps);
        }
    }

    /** THE FIELD, its ELEMENTS held as CODES; and the CODES of POLYNOMIALS. */
    private static final class Field {
        // The search for m is the same for every object, so it was made once: for 2, 3, 5,
        // and n 1 to 6 of each. The project's tests search anew.
        private static final int[] MODULI = {
            2, 7, 11, 19, 37, 67,
            3, 10, 34, 86, 250, 734,
            5, 27, 131, 627, 3146, 15632
        };

        final int p;
        final int n;
        final int size;
        final int modulus;
        /** p to the power i. */
        final int[] place = new int[MOST_DEGREE + 2];
        /** The numbers of x to the power n, as m tells them. */
        private final int[] fold = new int[MOST_N];
        /** The numbers of (x to the power i) to the power p. */
        private final int[][] raisedX = new int[MOST_N][MOST_N];
        /** A sum of products that is not folded yet; all 0 but between add.. and folded(). */
        private final int[] total = new int[2 * MOST_N];

        Field(int p, int n) {
            this.p = p;
            this.n = n;
            place[0] = 1;
            for (int i = 1; i < place.length; i++) {
                place[i] = place[i - 1] * p;
            }
            size = place[n];
            modulus = MODULI[(p == 2 ? 0 : p == 3 ? MOST_N : 2 * MOST_N) + n - 1];
            for (int i = 0; i < n; i++) {
                fold[i] = (p - numberAt(modulus, i)) % p;
            }
            // For n 1 there is no x among the ELEMENTS, and none is needed.
            int once = n == 1 ? 1 : power(place[1], p);
            int raised = 1;
            for (int i = 0; i < n; i++) {
                split(raised, raisedX[i]);
                raised = times(raised, once);
            }
        }

        boolean has(int e) {
            return e >= 0 && e < size;
        }

        boolean hasPolynomial(int a) {
            return a >= 0 && a < place[MOST_DEGREE + 1];
        }

        /** Figure i of a CODE, i 0 to 7. */
        int numberAt(int code, int i) {
            return code / place[i] % p;
        }

        /** The degree of a POLYNOMIAL; -1 of 0. */
        int degreeOf(int a) {
            int degree = -1;
            for (int i = 0; i <= MOST_DEGREE; i++) {
                if (a >= place[i]) {
                    degree = i;
                }
            }
            return degree;
        }

        /** The product of two POLYNOMIALS, of degree 6 at most. */
        int joined(int a, int b) {
            int made = 0;
            for (int k = 0; k <= MOST_DEGREE; k++) {
                int number = 0;
                for (int i = 0; i <= k; i++) {
                    number += numberAt(a, i) * numberAt(b, k - i);
                }
                made += number % p * place[k];
            }
            return made;
        }

        void split(int e, int[] numbers) {
            int rest = e;
            for (int i = 0; i < n; i++) {
                numbers[i] = rest % p;
                rest /= p;
            }
        }

        int packed(int[] numbers) {
            int code = 0;
            for (int i = n - 1; i >= 0; i--) {
                code = code * p + numbers[i];
            }
            return code;
        }

        void addTimes(int e, int number) {
            int rest = e;
            for (int i = 0; i < n; i++) {
                total[i] += rest % p * number;
                rest /= p;
            }
        }

        private void addProduct(int e, int f) {
            int restOfE = e;
            for (int i = 0; i < n; i++) {
                int number = restOfE % p;
                restOfE /= p;
                int restOfF = f;
                for (int j = 0; j < n && number != 0; j++) {
                    total[i + j] += restOfF % p * number;
                    restOfF /= p;
                }
            }
        }

        /** What has been added up, as an ELEMENT. */
        int folded() {
            for (int k = 2 * n - 2; k >= n; k--) {
                int number = total[k] % p;
                total[k] = 0;
                for (int i = 0; i < n && number != 0; i++) {
                    total[k - n + i] += number * fold[i];
                }
            }
            int code = 0;
            for (int k = n - 1; k >= 0; k--) {
                code = code * p + total[k] % p;
                total[k] = 0;
            }
            return code;
        }

        int times(int e, int f) {
            addProduct(e, f);
            return folded();
        }

        /** c + e f. */
        int plusTimes(int c, int e, int f) {
            if (e == 0 || f == 0) {
                return c;
            }
            addTimes(c, 1);
            addProduct(e, f);
            return folded();
        }

        int negative(int e) {
            addTimes(e, p - 1);
            return folded();
        }

        int power(int e, int exponent) {
            int made = 1;
            int square = e;
            for (int rest = exponent; rest > 0; rest /= 2) {
                if (rest % 2 == 1) {
                    made = times(made, square);
                }
                if (rest > 1) {
                    square = times(square, square);
                }
            }
            return made;
        }

        /** Of an ELEMENT that is not 0. */
        int inverse(int e) {
            return power(e, size - 2);
        }

        /** e to the power p: raising takes sums to sums, so the powers of x are enough. */
        int raised(int e) {
            int rest = e;
            for (int i = 0; i < n; i++) {
                int number = rest % p;
                rest /= p;
                for (int j = 0; j < n && number != 0; j++) {
                    total[j] += number * raisedX[i][j];
                }
            }
            return folded();
        }
    }

    /**
     * Rows of numbers modulo p, fed one by one; it finds each that is a sum of multiples of
     * those ahead of it. That one question finds OWN, ORDER, LEAST, BACK, and bases of KERNELS.
     */
    private static final class Span {
        private static final int MOST_FED = MOST_DEGREE + 1;
        private static final int MOST_WIDTH = MOST_N * MOST_N;

        private final Field elements;
        private final int p;
        private final int[] vector = new int[MOST_WIDTH];
        /** How the vector came to be, out of those that were fed. */
        private final int[] mix = new int[MOST_FED];
        private final int[][] kept = new int[MOST_FED][MOST_WIDTH];
        private final int[][] keptMix = new int[MOST_FED][MOST_FED];
        private final int[] lead = new int[MOST_FED];
        private int width = 0;
        private int keptSize = 0;
        private int fed = 0;

        Span(Field elements) {
            this.elements = elements;
            this.p = elements.p;
        }

        void begin(int newWidth) {
            width = Math.min(newWidth, MOST_WIDTH);
            keptSize = 0;
            fed = 0;
        }

        /** What has been fed counts as 0 from now on: relations are told modulo that. */
        void forget() {
            fed = 0;
            for (int k = 0; k < keptSize; k++) {
                Arrays.fill(keptMix[k], 0);
            }
        }

        void put(int at, int number) {
            if (at >= 0 && at < width) {
                vector[at] = number;
            }
        }

        void putElement(int at, int e) {
            int rest = e;
            for (int i = 0; i < elements.n; i++) {
                put(at + i, rest % p);
                rest /= p;
            }
        }

        void putNumbers(int at, int[] numbers) {
            for (int i = 0; i < elements.n; i++) {
                put(at + i, numbers[i]);
            }
        }

        /**
         * Feeds the vector that was put. 0: it is no sum of those ahead; else the CODE of the
         * relation, whose highest figure is a 1 for this one, and has a 0 for each that was
         * itself such a sum.
         */
        int feed() {
            if (fed >= MOST_FED) {
                return 0;
            }
            Arrays.fill(mix, 0);
            mix[fed] = 1;
            fed++;
            for (int k = 0; k < keptSize; k++) {
                takeAway(k);
            }
            int at = firstNumber();
            if (at == width) {
                return mixCode();
            }
            keep(at);
            return 0;
        }

        private void takeAway(int k) {
            int factor = p - vector[lead[k]];
            if (factor == p) {
                return;
            }
            for (int i = lead[k]; i < width; i++) {
                vector[i] = (vector[i] + factor * kept[k][i]) % p;
            }
            for (int i = 0; i < fed; i++) {
                mix[i] = (mix[i] + factor * keptMix[k][i]) % p;
            }
        }

        private int firstNumber() {
            int at = 0;
            while (at < width && vector[at] == 0) {
                at++;
            }
            return at;
        }

        private int mixCode() {
            int code = 0;
            for (int i = 0; i < fed; i++) {
                code += mix[i] * elements.place[i];
            }
            return code;
        }

        private void keep(int at) {
            if (keptSize >= MOST_FED) {
                return;
            }
            int factor = inverseNumber(vector[at]);
            for (int i = 0; i < width; i++) {
                kept[keptSize][i] = vector[i] * factor % p;
            }
            for (int i = 0; i < MOST_FED; i++) {
                keptMix[keptSize][i] = mix[i] * factor % p;
            }
            lead[keptSize] = at;
            keptSize++;
        }

        private int inverseNumber(int number) {
            int inverse = 1;
            while (inverse < p && inverse * number % p != 1) {
                inverse++;
            }
            return inverse;
        }
    }

    /** SUMS OF POWERS: behind one another, divided, and what they tell of WORLDS. */
    private static final class Sums {
        private static final int WIDTH = MOST_R * MOST_DEGREE + 1;
        /** Where a divisor's table has the inverse of its last number. */
        private static final int INVERSE = MOST_L + 1;

        private final Field elements;
        private final Span span;
        private final int n;
        /** Row j: T to the power j, of the WORLD that was asked last, as far as it was asked. */
        private final int[][] powers = new int[MOST_DEGREE + 1][WIDTH];
        private World poweredWorld = null;
        private int highestPower = 0;
        private final int[] raisedSum = new int[WIDTH];
        /** Row i: the divisor's numbers to the power (p to the power i). */
        private final int[][] divisor = new int[MOST_N][MOST_L + 2];
        private final int[] remainder = new int[WIDTH];
        final int[] quotient = new int[WIDTH];

        Sums(Field elements, Span span) {
            this.elements = elements;
            this.span = span;
            this.n = elements.n;
        }

        World worldOf(int[] t, int r) {
            int own = ownOf(t[0]);
            int d = elements.degreeOf(own);
            if (r == 1) {
                return new Line(t, own, d);
            }
            if (r == 3) {
                return new Deep(t, own, d);
            }
            int mark = elements.times(elements.power(t[1], elements.p + 1), elements.inverse(t[2]));
            Pair pair = new Pair(t, own, d, mark);
            return heightOf(pair) == 2 ? new Steep(pair) : pair;
        }

        private int ownOf(int value) {
            span.begin(n);
            int own = 0;
            int power = 1;
            for (int k = 0; k <= n && own == 0; k++) {
                span.putElement(0, power);
                own = span.feed();
                power = elements.times(power, value);
            }
            return own;
        }

        int heightOf(World world) {
            int last = lengthOf(world, world.own);
            int first = 0;
            raisePowers(world, world.d);
            while (first < last && mixed(world.own, first) == 0) {
                first++;
            }
            return world.d > 0 ? first / world.d : 0;
        }

        /** T's last number is not 0, and so no product of it with itself loses its last one. */
        int lengthOf(World world, int a) {
            int degree = elements.degreeOf(a);
            return degree < 0 ? -1 : degree * world.r;
        }

        /** Number k of the SUM OF POWERS of a POLYNOMIAL; k 0 to its LENGTH. */
        int numberOf(World world, int a, int k) {
            raisePowers(world, elements.degreeOf(a));
            return mixed(a, k);
        }

        /** The same, of the WORLD whose powers are there. */
        private int mixed(int a, int k) {
            for (int j = 0; j <= highestPower; j++) {
                elements.addTimes(powers[j][k], elements.numberAt(a, j));
            }
            return elements.folded();
        }

        private void raisePowers(World world, int degree) {
            if (poweredWorld != world) {
                poweredWorld = world;
                highestPower = 0;
                Arrays.fill(powers[0], 0);
                powers[0][0] = 1;
            }
            while (highestPower < degree && highestPower < MOST_DEGREE) {
                int length = world.r * highestPower;
                putBehind(world.t, world.r, powers[highestPower], length, powers[highestPower + 1]);
                highestPower++;
            }
        }

        /** One SUM OF POWERS (numbers 0 to its last) behind another one, which comes first. */
        private void putBehind(int[] behind, int lastBehind, int[] first, int lastFirst, int[] made) {
            Arrays.fill(made, 0);
            System.arraycopy(first, 0, raisedSum, 0, lastFirst + 1);
            for (int i = 0; i <= lastBehind; i++) {
                for (int j = 0; j <= lastFirst; j++) {
                    made[i + j] = elements.plusTimes(made[i + j], behind[i], raisedSum[j]);
                    raisedSum[j] = elements.raised(raisedSum[j]);
                }
            }
        }

        /** To raise n times changes nothing: n rows tell the divisor behind every power. */
        private void divideBy(int[] u, int l) {
            System.arraycopy(u, 0, divisor[0], 0, l + 1);
            divisor[0][INVERSE] = elements.inverse(u[l]);
            for (int i = 1; i < n; i++) {
                for (int j = 0; j <= l; j++) {
                    divisor[i][j] = elements.raised(divisor[i - 1][j]);
                }
                divisor[i][INVERSE] = elements.raised(divisor[i - 1][INVERSE]);
            }
        }

        /** What stands in remainder becomes quotient behind the divisor, and the remainder. */
        private void divide(int last, int l) {
            Arrays.fill(quotient, 0);
            for (int k = last - l; k >= 0; k--) {
                int[] raisedDivisor = divisor[k % n];
                quotient[k] = elements.times(remainder[k + l], raisedDivisor[INVERSE]);
                int taken = elements.negative(quotient[k]);
                for (int j = 0; j <= l; j++) {
                    remainder[k + j] = elements.plusTimes(remainder[k + j], taken, raisedDivisor[j]);
                }
            }
        }

        /** Whether a MAP leads a WORLD to one, of which quotient then has the numbers. */
        boolean leads(World from, int[] u, int l) {
            putBehind(u, l, from.t, from.r, remainder);
            divideBy(u, l);
            divide(l + from.r, l);
            for (int j = 0; j < l; j++) {
                if (remainder[j] != 0) {
                    return false;
                }
            }
            return true;
        }

        /** BACK's POLYNOMIAL, and its v in quotient; 0: there is none. */
        int wayBack(World from, int[] u, int l) {
            divideBy(u, l);
            span.begin(l * n);
            int way = 0;
            for (int k = 0; k <= MOST_BACK && way == 0; k++) {
                divideSumOf(from, elements.place[k], l);
                for (int j = 0; j < l; j++) {
                    span.putElement(j * n, remainder[j]);
                }
                way = span.feed();
            }
            if (way != 0) {
                divideSumOf(from, way, l);
            }
            return way;
        }

        private void divideSumOf(World from, int a, int l) {
            int last = lengthOf(from, a);
            raisePowers(from, elements.degreeOf(a));
            Arrays.fill(remainder, 0);
            for (int k = 0; k <= last; k++) {
                remainder[k] = mixed(a, k);
            }
            divide(last, l);
        }

        int[] turned(World from, int c) {
            int[] t = new int[MOST_R + 1];
            int inverse = elements.inverse(c);
            int raised = c;
            for (int k = 0; k <= from.r; k++) {
                t[k] = elements.times(from.t[k], elements.times(raised, inverse));
                raised = elements.raised(raised);
            }
            return t;
        }

        /**
         * How many c turn one WORLD to the other. Times c, the equations for it are t'(k) c less
         * t(k) c to the power (p to the power k) = 0, and these keep sums: it is enough to know
         * what they make of the powers of x.
         */
        int turnsFromTo(World one, World other) {
            if (one.r != other.r) {
                return 0;
            }
            span.begin((one.r + 1) * n);
            int free = 0;
            for (int i = 0; i < n; i++) {
                putTurning(one, other, elements.place[i]);
                if (span.feed() != 0) {
                    free++;
                }
            }
            return elements.place[free] - 1;
        }

        private void putTurning(World one, World other, int c) {
            int raised = c;
            for (int k = 0; k <= one.r; k++) {
                int less = elements.negative(elements.times(one.t[k], raised));
                span.putElement(k * n, elements.plusTimes(less, other.t[k], c));
                raised = elements.raised(raised);
            }
        }
    }

    /** What T, and so each POLYNOMIAL, does to THE FIELD, as rows of n numbers modulo p. */
    private static final class Action {
        private final Field elements;
        private final Span span;
        private final int p;
        private final int n;
        /** Row i: what T of the WORLD that was asked last makes of x to the power i. */
        private final int[][] images = new int[MOST_N][MOST_N];
        private World actingWorld = null;
        private final int[][] points = new int[MOST_N][MOST_N];
        private final int[] point = new int[MOST_N];
        private final int[] start = new int[MOST_N];
        private final int[] next = new int[MOST_N];
        private final int[] basis = new int[MOST_N];
        private int basisSize = 0;

        Action(Field elements, Span span) {
            this.elements = elements;
            this.span = span;
            this.p = elements.p;
            this.n = elements.n;
        }

        int imageOf(World world, int a, int z) {
            actBy(world);
            elements.split(z, start);
            follow(a);
            return elements.packed(point);
        }

        int orderOf(World world, int z) {
            actBy(world);
            elements.split(z, point);
            span.begin(n);
            return relationOfPoint();
        }

        /**
         * The points that the powers of x lead to, one after the other, build up THE FIELD;
         * each adds the relation that closes it modulo those ahead, a factor of the determinant.
         */
        int wholeOf(World world) {
            actBy(world);
            span.begin(n);
            int whole = 1;
            for (int i = 0; i < n; i++) {
                elements.split(elements.place[i], point);
                span.forget();
                whole = elements.joined(whole, relationOfPoint());
            }
            return whole;
        }

        int leastOf(World world) {
            actBy(world);
            for (int i = 0; i < n; i++) {
                elements.split(elements.place[i], points[i]);
            }
            span.begin(n * n);
            int least = 0;
            for (int k = 0; k <= n && least == 0; k++) {
                for (int i = 0; i < n; i++) {
                    span.putNumbers(i * n, points[i]);
                    step(points[i]);
                }
                least = span.feed();
            }
            return least;
        }

        /** How many ELEMENTS a KERNEL has; leaves its basis for kernelItem(). */
        int kernelSize(World world, int a) {
            actBy(world);
            span.begin(n);
            basisSize = 0;
            for (int i = 0; i < n; i++) {
                elements.split(elements.place[i], start);
                follow(a);
                span.putNumbers(0, point);
                int relation = span.feed();
                if (relation != 0) {
                    basis[basisSize] = relation;
                    basisSize++;
                }
            }
            return elements.place[basisSize];
        }

        /**
         * The i-th ELEMENT by its CODE. Each of the basis has its highest figure, a 1, where all
         * others have 0: so the figures of i, taken as multiples, keep the order.
         */
        int kernelItem(int i) {
            for (int k = 0; k < basisSize; k++) {
                elements.addTimes(basis[k], elements.numberAt(i, k));
            }
            return elements.folded();
        }

        private void actBy(World world) {
            if (actingWorld == world) {
                return;
            }
            actingWorld = world;
            for (int i = 0; i < n; i++) {
                int raised = elements.place[i];
                int image = 0;
                for (int k = 0; k <= world.r; k++) {
                    image = elements.plusTimes(image, world.t[k], raised);
                    raised = elements.raised(raised);
                }
                elements.split(image, images[i]);
            }
        }

        /** The POLYNOMIAL that closes point, T's image of it, and so on, in span. */
        private int relationOfPoint() {
            int relation = 0;
            for (int k = 0; k <= n && relation == 0; k++) {
                span.putNumbers(0, point);
                relation = span.feed();
                step(point);
            }
            return relation;
        }

        /** A point becomes what T makes of it. */
        private void step(int[] at) {
            Arrays.fill(next, 0);
            for (int i = 0; i < n; i++) {
                for (int j = 0; j < n && at[i] != 0; j++) {
                    next[j] += at[i] * images[i][j];
                }
            }
            for (int j = 0; j < n; j++) {
                at[j] = next[j] % p;
            }
        }

        /** Point becomes what a POLYNOMIAL makes of start. */
        private void follow(int a) {
            Arrays.fill(point, 0);
            for (int k = elements.degreeOf(a); k >= 0; k--) {
                step(point);
                int number = elements.numberAt(a, k);
                for (int j = 0; j < n; j++) {
                    point[j] = (point[j] + number * start[j]) % p;
                }
            }
        }
    }
}
