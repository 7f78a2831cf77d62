/** Promises 1 to 6: a test for each sentence that names a boundary. */
public final class RowEdgesTest {
    private static final int NONE = Edges.NONE, BAD = Edges.BAD;
    private static final int NULL = Edges.NULL, PLACE = Edges.PLACE,
        SIZE = Edges.SIZE, STORE = Edges.STORE;
    private static final int MIN = Edges.MIN, MAX = Edges.MAX;

    private static final Check CHECK = new Check();
    private static final Edges EDGES = new Edges(CHECK);

    public static void main(String[] args) throws IllegalAccessException {
        Sentences.run(RowEdgesTest.class, CHECK);
        CHECK.end("RowEdgesTest");
    }

    private static void due(TimesByPowers x, int want, String call, int... a) {
        EDGES.due(x, want, call, a);
    }

    private static void items(TimesByPowers x, int row, int lane, int... want) {
        for (int i = 0; i < want.length; i++) {
            CHECK.due("item " + i + " of row " + row, Edges.item(x, row, lane, i), want[i]);
        }
    }

    // ---- promise 1

    static void p01PIs2Or3Or5() {
        for (int p : Edges.PRIMES) {
            TimesByPowers x = new TimesByPowers(p, 1);
            due(x, p, "count", 6);
            due(x, p, "count", 7);
            due(x, 0, "field", p - 1, 1, 0);
        }
    }

    static void p01OtherPAre2() {
        int[] others = {-5, -3, -2, -1, 0, 1, 4, 6, 7, 8, 9, 10, 11, 13, 15, 25, 258, 259, 261,
            65538, 65539, 65541};
        for (int p : others) {
            likeTwo(p);
        }
        for (int p : Edges.FAR) {
            likeTwo(p);
        }
    }

    private static void likeTwo(int p) {
        TimesByPowers x = new TimesByPowers(p, 3);
        CHECK.due("elements of new(" + p + ", 3)", x.count(6), 8);
        CHECK.due("m of new(" + p + ", 3)", x.count(7), 11);
        CHECK.due("1 + 1 of new(" + p + ", 3)", x.field(1, 1, 0), 0);
    }

    static void p01NBelow1Is1() {
        int[] below = {1, 0, -1, -2, -6, -1000000, MIN + 1, MIN};
        for (int n : below) {
            CHECK.due("elements of new(3, " + n + ")", new TimesByPowers(3, n).count(6), 3);
            CHECK.due("m of new(3, " + n + ")", new TimesByPowers(3, n).count(7), 3);
        }
        CHECK.due("elements of new(3, 2)", new TimesByPowers(3, 2).count(6), 9);
    }

    static void p01NAbove6Is6() {
        int[] above = {6, 7, 8, 256, 257, 1000000, MAX - 1, MAX};
        for (int n : above) {
            CHECK.due("elements of new(5, " + n + ")", new TimesByPowers(5, n).count(6), 15625);
            CHECK.due("m of new(5, " + n + ")", new TimesByPowers(5, n).count(7), 15632);
        }
        CHECK.due("elements of new(5, 5)", new TimesByPowers(5, 5).count(6), 3125);
    }

    static void p01BothMayBeWrong() {
        int[][] given = {{MIN, MIN, 2}, {MAX, MAX, 64}, {4, 0, 2}, {0, 7, 64}};
        for (int[] g : given) {
            CHECK.due("elements of new(" + g[0] + ", " + g[1] + ")",
                new TimesByPowers(g[0], g[1]).count(6), g[2]);
        }
    }

    static void p01ANewObjectHasNothing() {
        TimesByPowers x = new TimesByPowers(2, 2);
        due(x, 0, "status");
        due(x, NONE, "trace", 0);
        for (int what = 0; what <= 5; what++) {
            due(x, 0, "count", what);
        }
    }

    // ---- promise 2

    static void p02RowIs0To7() {
        EDGES.range(0, 0, 7, "row", 0, 0, 1);
    }

    static void p02LaneIs0To2() {
        EDGES.range(1, 0, 2, "row", 0, 0, 1);
    }

    static void p02NAbove24IsBad() {
        int[] above = {25, 26, 32, 256, 257, 280, 65536, 1 << 30, MAX - 1, MAX};
        for (int row = 0; row < 8; row++) {
            EDGES.dueOfSample(24, "row", row, 0, 24);
            for (int n : above) {
                EDGES.dueOfSample(BAD, "row", row, 0, n);
            }
        }
    }

    static void p02NBelow0IsSize() {
        int[] below = {-1, -2, -24, -25, -256, -65536, NONE, -(1 << 30), MIN + 1, MIN};
        for (int row = 0; row < 8; row++) {
            EDGES.dueOfSample(0, "row", row, 2, 0);
            for (int n : below) {
                EDGES.dueOfSample(SIZE, "row", row, 2, n);
            }
        }
    }

    static void p02AnswersN() {
        TimesByPowers x = new TimesByPowers(2, 2);
        for (int lane = 0; lane < 3; lane++) {
            for (int n = 0; n <= 24; n++) {
                due(x, n, "row", 5, lane, n);
                due(x, PLACE, "set", 5, n, 0);
                due(x, n == 0 ? PLACE : 0, "set", 5, n - 1, 0);
            }
        }
    }

    static void p02InPlaceOfWhatIsThere() {
        TimesByPowers x = Edges.sample();
        due(x, 3, "row", 0, 2, 3);
        due(x, 4, "count", 0);
        items(x, 0, 2, 0, 0, 0);
        due(x, PLACE, "set", 0, 3, 1);
        due(x, 70000, "set", 0, 0, 70000);
        due(x, 3, "drop", 0);
    }

    /** What stood behind a shorter row's end is gone, also for a longer one afterwards. */
    static void p02NothingOfAnOldRowComesBack() {
        TimesByPowers x = Edges.sample();
        due(x, 1, "row", 0, 1, 1);
        due(x, 24, "row", 0, 1, 24);
        items(x, 0, 1, new int[24]);
        due(x, 2, "drop", 2);
        due(x, 2, "row", 2, 0, 2);
        items(x, 2, 0, 0, 0);
    }

    // ---- promise 3

    static void p03RowIs0To7() {
        EDGES.range(0, 0, 7, "set", 0, 0, 1);
    }

    static void p03AMissingRowIsNull() {
        TimesByPowers x = Edges.sample();
        for (int row = 4; row < 8; row++) {
            due(x, NULL, "set", row, 0, 1);
            due(x, NULL, "set", row, MAX, 1);
        }
        x.drop(0);
        due(x, NULL, "set", 0, 0, 1);
    }

    static void p03NoSuchItemIsPlace() {
        TimesByPowers x = Edges.sample();
        int[] sizes = {24, 24, 2, 0};
        for (int row = 0; row < 4; row++) {
            if (sizes[row] > 0) {
                due(x, 5, "set", row, 0, 5);
                due(x, 6, "set", row, sizes[row] - 1, 6);
            }
            due(x, PLACE, "set", row, sizes[row], 1);
            due(x, PLACE, "set", row, -1, 1);
            for (int i : Edges.FAR) {
                due(x, PLACE, "set", row, i, 1);
            }
        }
    }

    static void p03LowestBitsOfAByte() {
        TimesByPowers x = Edges.sample();
        int[][] cases = {{0, 0}, {1, 1}, {127, 127}, {128, -128}, {129, -127}, {255, -1}, {256, 0},
            {257, 1}, {300, 44}, {-1, -1}, {-128, -128}, {-129, 127}, {-256, 0}, {65535, -1},
            {MAX, -1}, {MIN, 0}, {MIN + 127, 127}, {MIN + 128, -128}};
        for (int[] c : cases) {
            due(x, c[1], "set", 2, 1, c[0]);
        }
    }

    static void p03LowestBitsOfAShort() {
        TimesByPowers x = Edges.sample();
        int[][] cases = {{0, 0}, {127, 127}, {128, 128}, {255, 255}, {256, 256}, {32767, 32767},
            {32768, -32768}, {65535, -1}, {65536, 0}, {65537, 1}, {-1, -1}, {-32768, -32768},
            {-32769, 32767}, {-65536, 0}, {MAX, -1}, {MIN, 0}, {MIN + 32768, -32768}};
        for (int[] c : cases) {
            due(x, c[1], "set", 0, 23, c[0]);
        }
    }

    static void p03AllBitsOfAnInt() {
        TimesByPowers x = Edges.sample();
        int[] cases = {0, 127, 128, 255, 256, 32767, 32768, 65535, 65536, -1, -129, -32769, MAX, MIN};
        for (int v : cases) {
            due(x, v, "set", 1, 0, v);
        }
    }

    /** What is kept is what was answered, not what was given. */
    static void p03TheItemIsWhatIsAnswered() {
        TimesByPowers x = Edges.sample();
        due(x, 1, "set", 2, 0, 257);
        due(x, 2, "set", 0, 0, 65538);
        items(x, 2, 0, 1, 1);
        items(x, 0, 1, 2, 1);
        due(x, -1, "set", 2, 0, 255);
        items(x, 2, 0, BAD, 1);
    }

    static void p03NoOtherItemChanges() {
        TimesByPowers x = Edges.sample();
        due(x, 7, "set", 0, 1, 7);
        items(x, 0, 1, 1, 7, 1, 1);
        items(x, 1, 2, 1, 1, 1);
        due(x, 8, "set", 0, 23, 8);
        CHECK.due("the one ahead", Edges.item(x, 0, 1, 22), 1);
        CHECK.due("the last", Edges.item(x, 0, 1, 23), 8);
    }

    // ---- promise 4

    static void p04RowsAre0To7() {
        EDGES.range(0, 0, 7, "copy", 0, 0, 0, 0, 1);
        EDGES.range(2, 0, 7, "copy", 0, 0, 0, 0, 1);
    }

    static void p04AMissingRowIsNull() {
        EDGES.dueOfSample(NULL, "copy", 4, 0, 0, 0, 0);
        EDGES.dueOfSample(NULL, "copy", 0, 0, 4, 0, 0);
        EDGES.dueOfSample(NULL, "copy", 4, 0, 7, 0, 0);
        EDGES.dueOfSample(NULL, "copy", 7, 0, 7, 0, 0);
    }

    static void p04TwoLanesAreStore() {
        TimesByPowers x = new TimesByPowers(2, 2);
        for (int row = 0; row < 6; row++) {
            x.row(row, row % 3, 2);
        }
        for (int a = 0; a < 6; a++) {
            for (int b = 0; b < 6; b++) {
                due(x, a % 3 == b % 3 ? 2 : STORE, "copy", a, 0, b, 0, 2);
                due(x, a % 3 == b % 3 ? 0 : STORE, "copy", a, 0, b, 0, 0);
            }
        }
    }

    static void p04FindingsInTheirOrder() {
        EDGES.dueOfSample(NULL, "copy", 4, -1, 1, -1, -1);
        EDGES.dueOfSample(STORE, "copy", 0, -1, 1, 0, 0);
        EDGES.dueOfSample(STORE, "copy", 0, 0, 1, 25, 0);
        EDGES.dueOfSample(STORE, "copy", 0, 0, 1, 0, MIN);
        EDGES.dueOfSample(PLACE, "copy", 0, -1, 3, 0, 0);
    }

    private static TimesByPowers twoRows() {
        TimesByPowers x = new TimesByPowers(5, 2);
        Edges.numbers(x, 0, 1, 2, 3, 4, 5);
        Edges.numbers(x, 1, 6, 7, 8);
        return x;
    }

    static void p04BelowZeroIsPlace() {
        int[] below = {-1, -2, -5, -256, -65536, MIN, MIN + 1, MIN + 5, -(1 << 30)};
        for (int v : below) {
            due(twoRows(), PLACE, "copy", 0, v, 1, 0, 1);
            due(twoRows(), PLACE, "copy", 0, v, 1, 0, 0);
            due(twoRows(), PLACE, "copy", 0, 0, 1, v, 1);
            due(twoRows(), PLACE, "copy", 0, 0, 1, v, 0);
            due(twoRows(), PLACE, "copy", 0, 0, 1, 0, v);
            due(twoRows(), PLACE, "copy", 0, 5, 1, 3, v);
            due(twoRows(), PLACE, "copy", 0, v, 1, v, v);
        }
        due(twoRows(), 1, "copy", 0, 0, 1, 0, 1);
        due(twoRows(), 0, "copy", 0, 0, 1, 0, 0);
    }

    static void p04BeyondTheEndOfAIsPlace() {
        for (int i = 0; i <= 5; i++) {
            int most = Math.min(3, 5 - i);
            due(twoRows(), most, "copy", 0, i, 1, 0, most);
            due(twoRows(), PLACE, "copy", 0, i, 1, 0, most + 1);
            due(twoRows(), 5 - i, "copy", 0, i, 0, 0, 5 - i);
            due(twoRows(), PLACE, "copy", 0, i, 0, 0, 6 - i);
        }
        due(twoRows(), PLACE, "copy", 0, 6, 1, 0, 0);
        due(twoRows(), PLACE, "copy", 0, MAX, 1, 0, 0);
    }

    static void p04BeyondTheEndOfBIsPlace() {
        for (int j = 0; j <= 3; j++) {
            due(twoRows(), 3 - j, "copy", 0, 0, 1, j, 3 - j);
            due(twoRows(), PLACE, "copy", 0, 0, 1, j, 4 - j);
        }
        due(twoRows(), PLACE, "copy", 0, 0, 1, 4, 0);
        due(twoRows(), PLACE, "copy", 0, 0, 1, MAX, 0);
    }

    static void p04SumsThatWrapAroundArePlace() {
        int[][] cases = {{1, MAX}, {5, MAX}, {MAX, 1}, {MAX, MAX}, {1 << 30, 1 << 30}, {2, MAX - 1},
            {MAX, 2}, {MAX - 1, 3}, {MIN, MIN}, {MIN, MAX}, {-1, MIN}, {-1, 1}, {-4, 4}, {-3, 5}};
        for (int[] c : cases) {
            due(twoRows(), PLACE, "copy", 0, c[0], 1, 0, c[1]);
            due(twoRows(), PLACE, "copy", 0, 0, 1, c[0], c[1]);
            due(twoRows(), PLACE, "copy", 0, c[0], 0, c[0], c[1]);
        }
    }

    static void p04NoneIsCopied() {
        TimesByPowers x = twoRows();
        due(x, 0, "copy", 0, 5, 1, 3, 0);
        due(x, 0, "copy", 0, 0, 1, 0, 0);
        items(x, 0, 2, 1, 2, 3, 4, 5);
        items(x, 1, 2, 6, 7, 8);
    }

    static void p04AllOfALongestRow() {
        TimesByPowers x = Edges.sample();
        due(x, 24, "row", 5, 1, 24);
        due(x, 24, "copy", 0, 0, 5, 0, 24);
        due(x, PLACE, "copy", 0, 0, 5, 0, 25);
        due(x, PLACE, "copy", 0, 1, 5, 0, 24);
        due(x, PLACE, "copy", 0, 0, 5, 1, 24);
        CHECK.due("the first", Edges.item(x, 5, 1, 0), 1);
        CHECK.due("the last", Edges.item(x, 5, 1, 23), 1);
    }

    /** As they were ahead: within one row, to the right and to the left. */
    static void p04AsTheyWereAhead() {
        TimesByPowers x = twoRows();
        due(x, 4, "copy", 0, 0, 0, 1, 4);
        items(x, 0, 2, 1, 1, 2, 3, 4);
        x = twoRows();
        due(x, 4, "copy", 0, 1, 0, 0, 4);
        items(x, 0, 2, 2, 3, 4, 5, 5);
        x = twoRows();
        due(x, 3, "copy", 0, 0, 0, 2, 3);
        items(x, 0, 2, 1, 2, 1, 2, 3);
        due(x, 5, "copy", 0, 0, 0, 0, 5);
        items(x, 0, 2, 1, 2, 1, 2, 3);
    }

    static void p04NoOtherItemChanges() {
        TimesByPowers x = twoRows();
        due(x, 1, "copy", 0, 4, 1, 1, 1);
        items(x, 0, 2, 1, 2, 3, 4, 5);
        items(x, 1, 2, 6, 5, 8);
    }

    // ---- promise 5

    static void p05RowIs0To7() {
        EDGES.range(0, 0, 7, "drop", 0);
    }

    static void p05AMissingRowIsNull() {
        TimesByPowers x = Edges.sample();
        for (int row = 4; row < 8; row++) {
            due(x, NULL, "drop", row);
        }
        due(x, 24, "drop", 0);
        due(x, NULL, "drop", 0);
    }

    static void p05HowManyItemsItHad() {
        TimesByPowers x = new TimesByPowers(2, 2);
        for (int n = 0; n <= 24; n++) {
            x.row(n % 8, n % 3, n);
            due(x, n, "drop", n % 8);
        }
        due(x, 0, "count", 0);
    }

    static void p05ItIsMissingFromNowOn() {
        TimesByPowers x = Edges.sample();
        due(x, 24, "drop", 0);
        due(x, 3, "count", 0);
        due(x, NULL, "set", 0, 0, 1);
        due(x, NULL, "copy", 0, 0, 3, 0, 0);
        due(x, NULL, "copy", 3, 0, 0, 0, 0);
        due(x, NULL, "world", 0, 0, 0, 1);
        due(x, NULL, "map", 0, 0, 0, 0, 1);
        due(x, NULL, "back", 0, 0, 0, 1, 0);
        due(x, 0, "drop", 3);
        due(x, 24, "drop", 1);
    }

    // ---- promise 6

    static void p06AIsAnElement() {
        for (int p : Edges.PRIMES) {
            for (int n = 1; n <= 6; n++) {
                for (int what = 0; what <= 3; what++) {
                    EDGES.rangeIn(p, n, 0, 0, Edges.power(p, n) - 1, "field", 0, 1, what);
                }
            }
        }
    }

    static void p06BIsAnElementButOfPowers() {
        for (int p : Edges.PRIMES) {
            for (int n = 1; n <= 6; n++) {
                int[] whats = {0, 1, 3};
                for (int what : whats) {
                    EDGES.rangeIn(p, n, 1, 0, Edges.power(p, n) - 1, "field", 1, 0, what);
                }
            }
        }
    }

    static void p06ExponentsAre0To100000() {
        for (int p : Edges.PRIMES) {
            for (int n = 1; n <= 6; n++) {
                EDGES.rangeIn(p, n, 1, 0, 100000, "field", 1, 0, 2);
            }
        }
        TimesByPowers x = new TimesByPowers(5, 6);
        int fold = x.field(7, 100000 % 15624, 2);
        due(x, fold, "field", 7, 100000, 2);
        due(x, BAD, "field", 7, 100001, 2);
        due(x, 1, "field", 7, 0, 2);
        due(x, BAD, "field", 7, -1, 2);
    }

    static void p06WhatIs0To3() {
        EDGES.range(2, 0, 3, "field", 1, 1, 0);
        EDGES.range(2, 0, 3, "field", 0, 0, 0);
    }

    static void p06By0IsNone() {
        for (int p : Edges.PRIMES) {
            for (int n = 1; n <= 6; n++) {
                TimesByPowers x = new TimesByPowers(p, n);
                int q = Edges.power(p, n);
                due(x, NONE, "field", 0, 0, 3);
                due(x, NONE, "field", 1, 0, 3);
                due(x, NONE, "field", q - 1, 0, 3);
                due(x, 0, "field", 0, 1, 3);
                due(x, 1, "field", q - 1, q - 1, 3);
                due(x, q - 1, "field", q - 1, 1, 3);
            }
        }
    }

    static void p06BadGoesAheadOfNone() {
        EDGES.dueOfSample(BAD, "field", 27, 0, 3);
        EDGES.dueOfSample(BAD, "field", -1, 0, 3);
    }

    static void p06PowersOf0() {
        TimesByPowers x = new TimesByPowers(3, 3);
        due(x, 1, "field", 0, 0, 2);
        due(x, 0, "field", 0, 1, 2);
        due(x, 0, "field", 0, 100000, 2);
    }

    static void p06SumsAndProductsStayElements() {
        for (int p : Edges.PRIMES) {
            for (int n = 1; n <= 6; n++) {
                Model model = new Model(p, n);
                TimesByPowers x = new TimesByPowers(p, n);
                int q = model.q;
                due(x, model.plus(q - 1, q - 1), "field", q - 1, q - 1, 0);
                due(x, model.plus(q - 1, 1), "field", q - 1, 1, 0);
                due(x, model.times(q - 1, q - 1), "field", q - 1, q - 1, 1);
                due(x, model.times(q - 1, q / 2), "field", q - 1, q / 2, 1);
                due(x, 0, "field", q - 1, 0, 1);
            }
        }
    }
}
