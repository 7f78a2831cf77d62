/** What the tests of boundaries share: a sample object, and numbers around a range's ends. */
final class Edges {
    static final int NONE = -1000000, BAD = -1000001;
    static final int NULL = -1000011, PLACE = -1000012, KIND = -1000013,
        SIZE = -1000014, STORE = -1000015;
    static final int MIN = Integer.MIN_VALUE, MAX = Integer.MAX_VALUE;
    static final int[] PRIMES = {2, 3, 5};

    /** Far outside of either sign; some look right once cut to fewer bits, or doubled. */
    static final int[] FAR = {MIN, MIN + 1, MIN + 2, MIN + 10, -(1 << 30), STORE, NULL, BAD, NONE,
        -100000, -65536, -65535, -257, -256, -255, -32, -10, -3, -2, -1, 32, 256, 257, 65536, 65537,
        99999, 1 << 20, 1 << 30, 1 << 30 | 1, MAX - 10, MAX - 1, MAX};

    private final Check check;

    Edges(Check check) {
        this.check = check;
    }

    static int power(int p, int n) {
        int made = 1;
        for (int i = 0; i < n; i++) {
            made *= p;
        }
        return made;
    }

    /**
     * Row 0: 24 shorts, row 1: 24 ints, row 2: two bytes, all of them 1; row 3: no shorts; the
     * others are missing. Places 0 to 3: a LINE, a PAIR, a STEEP one, a DEEP one, all numbers
     * of them 1, but for the STEEP one's, 0 0 1; the others are empty.
     */
    static TimesByPowers sample(int p, int n) {
        TimesByPowers x = new TimesByPowers(p, n);
        int[] sizes = {24, 24, 2, 0};
        int[] lanes = {1, 2, 0, 1};
        for (int row = 0; row < 4; row++) {
            x.row(row, lanes[row], sizes[row]);
            for (int i = 0; i < sizes[row]; i++) {
                x.set(row, i, 1);
            }
        }
        x.world(0, 0, 0, 1);
        x.world(1, 0, 0, 2);
        put(x, 2, 0, 0, 1);
        x.world(3, 0, 0, 3);
        return x;
    }

    static TimesByPowers sample() {
        return sample(3, 3);
    }

    /** A new row of ints. */
    static void numbers(TimesByPowers x, int row, int... items) {
        x.row(row, 2, items.length);
        for (int i = 0; i < items.length; i++) {
            x.set(row, i, items[i]);
        }
    }

    /** A world through row 7, which is missing afterwards. */
    static int put(TimesByPowers x, int place, int... t) {
        numbers(x, 7, t);
        int kind = x.world(place, 7, 0, t.length - 1);
        x.drop(7);
        return kind;
    }

    /** An item that is an element, seen through row 6 and place 9; BAD: it is none. */
    static int item(TimesByPowers x, int row, int lane, int i) {
        x.row(6, lane, 2);
        x.set(6, 1, 1);
        x.copy(row, i, 6, 0, 1);
        return x.world(9, 6, 0, 1) == BAD ? BAD : x.told(9, 1);
    }

    void due(TimesByPowers x, int want, String call, int... a) {
        check.due(Calls.text(call, a), Calls.of(x, call, a), want);
    }

    /** On a new sample each. */
    void dueOfSample(int want, String call, int... a) {
        due(sample(), want, call, a);
    }

    void holds(String what, boolean holds) {
        check.holds(what, holds);
    }

    /** Number at of a call is taken from low to high, and BAD below and above. */
    void range(int at, int low, int high, String call, int... a) {
        rangeIn(3, 3, at, low, high, call, a);
    }

    void rangeIn(int p, int n, int at, int low, int high, String call, int... a) {
        int[] given = a.clone();
        int[] inside = {low, high, low + (high - low) / 2};
        for (int v : inside) {
            given[at] = v;
            taken(p, n, call, given);
        }
        int[] next = {low - 1, high + 1};
        for (int v : next) {
            given[at] = v;
            due(sample(p, n), BAD, call, given);
        }
        for (int v : FAR) {
            if (v < low || v > high) {
                given[at] = v;
                due(sample(p, n), BAD, call, given);
            }
        }
    }

    /** Number at of a call is taken from low on, and BAD below. */
    void from(int at, int low, String call, int... a) {
        int[] given = a.clone();
        given[at] = low - 1;
        dueOfSample(BAD, call, given);
        given[at] = low;
        taken(3, 3, call, given);
        for (int v : FAR) {
            given[at] = v;
            if (v < low) {
                dueOfSample(BAD, call, given);
            } else {
                taken(3, 3, call, given);
            }
        }
    }

    private void taken(int p, int n, String call, int... a) {
        holds(Calls.text(call, a) + " of new(" + p + ", " + n + ") is not BAD",
            Calls.of(sample(p, n), call, a) != BAD);
    }
}
