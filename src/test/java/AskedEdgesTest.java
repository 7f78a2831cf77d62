/** Promises 11 to 25: a test for each sentence that names a boundary. */
public final class AskedEdgesTest {
    private static final int NONE = Edges.NONE, BAD = Edges.BAD;
    private static final int NULL = Edges.NULL, PLACE = Edges.PLACE, KIND = Edges.KIND,
        SIZE = Edges.SIZE, STORE = Edges.STORE;
    private static final int MIN = Edges.MIN, MAX = Edges.MAX;

    private static final Check CHECK = new Check();
    private static final Edges EDGES = new Edges(CHECK);

    public static void main(String[] args) throws IllegalAccessException {
        Sentences.run(AskedEdgesTest.class, CHECK);
        CHECK.end("AskedEdgesTest");
    }

    private static void due(TimesByPowers x, int want, String call, int... a) {
        EDGES.due(x, want, call, a);
    }

    /** Places 4 to 9 of the sample are empty, and 0 is as well once it is cleared. */
    private static void emptyIsNull(String call, int... a) {
        int[] given = a.clone();
        for (int place = 4; place < 10; place++) {
            given[0] = place;
            EDGES.dueOfSample(NULL, call, given);
        }
        TimesByPowers x = Edges.sample();
        x.clear(0);
        given[0] = 0;
        due(x, NULL, call, given);
        due(x, 1, "status");
    }

    private static void polynomialsAreBelowPToThe7(String call, int... a) {
        for (int p : Edges.PRIMES) {
            for (int n = 1; n <= 6; n++) {
                EDGES.rangeIn(p, n, 1, 0, Edges.power(p, 7) - 1, call, a);
            }
        }
    }

    // ---- promise 11

    static void p11PlaceIs0To9() {
        EDGES.range(0, 0, 9, "told", 0, 0);
    }

    static void p11WhatIs0To9() {
        EDGES.range(1, 0, 9, "told", 1, 0);
        EDGES.range(1, 0, 9, "told", 9, 0);
    }

    static void p11AnEmptyPlaceIsNull() {
        for (int what = 0; what <= 9; what++) {
            emptyIsNull("told", 0, what);
        }
    }

    static void p11NumbersAboveRAre0() {
        TimesByPowers x = Edges.sample();
        int[][] want = {{1, 1, 1, 0, 0}, {2, 1, 1, 1, 0}, {2, 0, 0, 1, 0}, {3, 1, 1, 1, 1}};
        for (int place = 0; place < 4; place++) {
            for (int what = 0; what <= 4; what++) {
                due(x, want[place][what], "told", place, what);
            }
        }
    }

    static void p11MarkOfNoPairIsKind() {
        TimesByPowers x = Edges.sample();
        due(x, KIND, "told", 0, 9);
        due(x, 3, "status");
        due(x, 1, "told", 1, 9);
        due(x, 0, "status");
        due(x, 0, "told", 2, 9);
        due(x, KIND, "told", 3, 9);
    }

    static void p11MarkByT2() {
        TimesByPowers x = new TimesByPowers(3, 2);
        int[][] worlds = {{0, 0, 8}, {8, 8, 8}, {0, 1, 8}, {3, 8, 1}};
        for (int[] t : worlds) {
            Edges.put(x, 0, t);
            due(x, x.field(x.field(t[1], 4, 2), t[2], 3), "told", 0, 9);
        }
    }

    /** HEIGHT 1 to r: all of them, where t begins with as many 0. */
    static void p11HeightIs1ToR() {
        for (int r = 1; r <= 3; r++) {
            for (int h = 1; h <= r; h++) {
                TimesByPowers x = new TimesByPowers(5, 6);
                int[] t = new int[r + 1];
                t[0] = 3;
                for (int k = h; k <= r; k++) {
                    t[k] = 4;
                }
                Edges.put(x, 0, t);
                due(x, h, "told", 0, 6);
            }
        }
    }

    /** Where d is 2, OWN's sum begins at 2 or at 4, and HEIGHT is 1 or 2. */
    static void p11HeightIsCountedByD() {
        TimesByPowers x = new TimesByPowers(2, 2);
        int[][] worlds = {{3, 1}, {3, 0, 1}, {3, 2, 1}};
        int[] first = {2, 2, 4};
        for (int k = 0; k < worlds.length; k++) {
            Edges.put(x, 0, worlds[k]);
            due(x, 7, "told", 0, 5);
            for (int i = 0; i < first[k]; i++) {
                due(x, 0, "sum", 0, 7, i);
            }
            CHECK.holds("number " + first[k], x.sum(0, 7, first[k]) != 0);
            due(x, first[k] / 2, "told", 0, 6);
        }
    }

    /** Y to the n changes nothing: with n 6, Y Y Y has LEAST T T - 1, WHOLE its third power. */
    static void p11WholeAndLeastAtTheirMost() {
        TimesByPowers x = new TimesByPowers(2, 6);
        Edges.put(x, 0, 0, 1);
        due(x, 65, "told", 0, 7);
        due(x, 65, "told", 0, 8);
        Edges.put(x, 0, 0, 0, 0, 1);
        due(x, 85, "told", 0, 7);
        due(x, 5, "told", 0, 8);
        TimesByPowers y = new TimesByPowers(5, 1);
        Edges.put(y, 0, 4, 1);
        due(y, 5, "told", 0, 7);
        due(y, 5, "told", 0, 8);
    }

    // ---- promise 12

    static void p12PlaceIs0To9() {
        EDGES.range(0, 0, 9, "acts", 0, 0, 0);
    }

    static void p12AIsBelowPToThe7() {
        polynomialsAreBelowPToThe7("acts", 0, 0, 0);
        polynomialsAreBelowPToThe7("acts", 9, 0, 0);
    }

    static void p12ZIsAnElement() {
        for (int p : Edges.PRIMES) {
            for (int n = 1; n <= 6; n++) {
                EDGES.rangeIn(p, n, 2, 0, Edges.power(p, n) - 1, "acts", 0, 1, 0);
            }
        }
    }

    static void p12AnEmptyPlaceIsNull() {
        emptyIsNull("acts", 0, 0, 0);
        emptyIsNull("acts", 0, 2186, 26);
    }

    static void p12TheGreatestActsAsItsSum() {
        for (int p : Edges.PRIMES) {
            for (int n = 1; n <= 6; n++) {
                Model model = new Model(p, n);
                TimesByPowers x = Edges.sample(p, n);
                int a = Edges.power(p, 7) - 1;
                int[] z = {0, 1, model.q - 1};
                int[] t = {1, 1, 1, 1};
                for (int each : z) {
                    due(x, model.value(model.sumOf(t, a), each), "acts", 3, a, each);
                    due(x, 0, "acts", 3, 0, each);
                    due(x, each, "acts", 3, 1, each);
                }
            }
        }
    }

    // ---- promise 13

    static void p13PlaceIs0To9() {
        EDGES.range(0, 0, 9, "sum", 0, 0, 0);
    }

    static void p13AIsBelowPToThe7() {
        polynomialsAreBelowPToThe7("sum", 0, 0, 0);
        polynomialsAreBelowPToThe7("sum", 9, 0, -1);
    }

    static void p13KIsLess1Or0On() {
        EDGES.from(2, -1, "sum", 0, 3, 0);
        EDGES.from(2, -1, "sum", 9, 3, 0);
    }

    static void p13AnEmptyPlaceIsNull() {
        emptyIsNull("sum", 0, 0, -1);
        emptyIsNull("sum", 0, 2186, MAX);
    }

    static void p13NumbersBeyondTheLengthAre0() {
        TimesByPowers x = Edges.sample();
        for (int place = 0; place < 4; place++) {
            int length = x.sum(place, 2186, -1);
            int[] beyond = {length + 1, 19, 20, 100, 65536, 1 << 30, MAX - 1, MAX};
            for (int k : beyond) {
                due(x, 0, "sum", place, 2186, k);
                due(x, 0, "sum", place, 0, k);
            }
            due(x, 2, "sum", place, 2, 0);
            due(x, 0, "sum", place, 2, 1);
        }
    }

    // ---- promise 14

    static void p14PlaceIs0To9() {
        EDGES.range(0, 0, 9, "order", 0, 0);
    }

    static void p14ZIsAnElement() {
        for (int p : Edges.PRIMES) {
            for (int n = 1; n <= 6; n++) {
                EDGES.rangeIn(p, n, 1, 0, Edges.power(p, n) - 1, "order", 0, 1);
                EDGES.rangeIn(p, n, 1, 0, Edges.power(p, n) - 1, "order", 9, 1);
            }
        }
    }

    static void p14AnEmptyPlaceIsNull() {
        emptyIsNull("order", 0, 0);
        emptyIsNull("order", 0, 26);
    }

    /** T = Y of new(2, 6): 1 stays; some z have all of T to the 6 less 1. */
    static void p14FromDegree0ToN() {
        TimesByPowers x = new TimesByPowers(2, 6);
        Edges.put(x, 0, 0, 1);
        due(x, 1, "order", 0, 0);
        due(x, 3, "order", 0, 1);
        int full = 0;
        for (int z = 0; z < 64; z++) {
            full += x.order(0, z) == 65 ? 1 : 0;
        }
        CHECK.due("z of full order", full, 24);
    }

    // ---- promise 15

    static void p15PlaceIs0To9() {
        EDGES.range(0, 0, 9, "kernel", 0, 0, 0);
        EDGES.range(0, 0, 9, "kernel", 0, 0, NONE);
    }

    static void p15AIsBelowPToThe7() {
        polynomialsAreBelowPToThe7("kernel", 0, 0, 0);
        polynomialsAreBelowPToThe7("kernel", 9, 0, NONE);
    }

    static void p15AnEmptyPlaceIsNull() {
        emptyIsNull("kernel", 0, 0, 0);
        emptyIsNull("kernel", 0, 2186, NONE);
        emptyIsNull("kernel", 0, 1, MAX);
    }

    static void p15HowManyFor1AndAll() {
        for (int p : Edges.PRIMES) {
            for (int n = 1; n <= 6; n++) {
                TimesByPowers x = Edges.sample(p, n);
                int q = Edges.power(p, n);
                due(x, 1, "kernel", 3, 1, NONE);
                due(x, 0, "kernel", 3, 1, 0);
                due(x, NONE, "kernel", 3, 1, 1);
                due(x, q, "kernel", 3, 0, NONE);
                due(x, q - 1, "kernel", 3, 0, q - 1);
                due(x, NONE, "kernel", 3, 0, q);
            }
        }
    }

    static void p15NoneIfThereAreNotSoMany() {
        TimesByPowers x = new TimesByPowers(3, 3);
        Edges.put(x, 0, 0, 1);
        // T less 1 leaves the numbers 0, 1, 2.
        due(x, 3, "kernel", 0, 5, NONE);
        due(x, 2, "kernel", 0, 5, 2);
        due(x, NONE, "kernel", 0, 5, 3);
        due(x, 0, "status");
        for (int i : Edges.FAR) {
            due(x, i == NONE ? 3 : NONE, "kernel", 0, 5, i);
        }
        due(x, NONE, "kernel", 0, 5, NONE + 1);
        due(x, NONE, "kernel", 0, 5, NONE - 1);
    }

    // ---- promise 16

    static void p16PlaceIs0To9() {
        EDGES.range(0, 0, 9, "back", 0, 0, 0, 1, -2);
        EDGES.range(0, 0, 9, "back", 0, 4, 0, 1, -2);
    }

    static void p16RowIs0To7() {
        EDGES.range(1, 0, 7, "back", 0, 0, 0, 1, -2);
        EDGES.range(1, 0, 7, "back", 9, 0, 0, 1, -2);
    }

    static void p16LIs1To4() {
        EDGES.range(3, 1, 4, "back", 0, 0, 0, 1, -2);
        EDGES.range(3, 1, 4, "back", 9, 4, 0, 1, -2);
    }

    static void p16KIsLess2On() {
        EDGES.from(4, -2, "back", 0, 0, 0, 1, -2);
        EDGES.from(4, -2, "back", 9, 4, 0, 1, -2);
    }

    static void p16AnEmptyPlaceOrAMissingRowIsNull() {
        emptyIsNull("back", 0, 0, 0, 1, 0);
        emptyIsNull("back", 0, 4, -1, 1, 0);
        for (int row = 4; row < 8; row++) {
            EDGES.dueOfSample(NULL, "back", 0, row, 0, 1, 0);
            EDGES.dueOfSample(NULL, "back", 0, row, MAX, 4, MAX);
        }
    }

    static void p16NoSuchItemsArePlace() {
        for (int l = 1; l <= 4; l++) {
            int[] wrong = {-1, -l, -l - 1, 24 - l, 23, 24, 25, MAX - l, MAX - l + 1, MIN + l};
            for (int i : wrong) {
                EDGES.dueOfSample(PLACE, "back", 0, 0, i, l, -2);
            }
            for (int i : Edges.FAR) {
                EDGES.dueOfSample(PLACE, "back", 0, 0, i, l, -2);
            }
            CHECK.holds("the last place", Edges.sample().back(0, 0, 23 - l, l, -2) != PLACE);
            CHECK.holds("the first place", Edges.sample().back(0, 0, 0, l, -2) != PLACE);
            EDGES.dueOfSample(PLACE, "back", 0, 3, 0, l, -2);
        }
    }

    static void p16AnItemThatIsNoElementIsBad() {
        int[] wrong = {27, 28, -1, -27, MIN, MAX, NONE};
        for (int l = 1; l <= 4; l++) {
            for (int k = 0; k <= l; k++) {
                TimesByPowers x = Edges.sample();
                x.set(1, 5 + k, 26);
                CHECK.holds("the last element is taken", x.back(1, 1, 5, l, -2) != BAD);
                for (int v : wrong) {
                    x.set(1, 5 + k, v);
                    due(x, BAD, "back", 1, 1, 5, l, -2);
                }
            }
        }
    }

    static void p16TheFirstAndTheLastNumberAreNot0() {
        for (int l = 1; l <= 4; l++) {
            for (int k = 0; k <= l; k++) {
                TimesByPowers x = Edges.sample();
                x.set(1, k, 0);
                CHECK.holds("number " + k + " of " + l + " is 0",
                    (x.back(0, 1, 0, l, -2) == BAD) == (k == 0 || k == l));
            }
        }
    }

    static void p16FindingsGoAheadOfTheLaterBad() {
        TimesByPowers x = Edges.sample();
        Edges.numbers(x, 5, 0, -1, 0);
        due(x, NULL, "back", 4, 5, 0, 1, 0);
        due(x, PLACE, "back", 0, 5, 0, 3, 0);
        due(x, BAD, "back", 0, 5, 0, 2, 0);
        due(x, 2, "status");
    }

    /** u is t: T is 1 behind it, and v has a number 0 alone. */
    static void p16NumbersBeyondTheLengthOfVAre0() {
        TimesByPowers x = Edges.sample();
        due(x, 3, "back", 0, 0, 0, 1, -2);
        due(x, 0, "back", 0, 0, 0, 1, -1);
        due(x, 1, "back", 0, 0, 0, 1, 0);
        int[] beyond = {1, 2, 3, 11, 12, 18, 19, 256, 65536, 1 << 30, MAX - 1, MAX};
        for (int k : beyond) {
            due(x, 0, "back", 0, 0, 0, 1, k);
        }
    }

    /** A DEEP world, degree 4, l 1: v has LENGTH 12 less 1, and none is longer. */
    static void p16TheLongestWayBack() {
        TimesByPowers x = new TimesByPowers(2, 4);
        int[] t = {7, 13, 7, 7};
        int[] u = {12, 4};
        int[] v = {3, 8, 15, 15, 2, 14, 14, 9, 10, 9, 10, 9};
        Model model = new Model(2, 4);
        CHECK.holds("v behind u", Model.same(model.behind(v, u), model.sumOf(t, 23)));
        Edges.put(x, 0, t);
        Edges.numbers(x, 0, u);
        due(x, 23, "back", 0, 0, 0, 1, -2);
        due(x, 11, "back", 0, 0, 0, 1, -1);
        for (int k = 0; k < v.length; k++) {
            due(x, v[k], "back", 0, 0, 0, 1, k);
        }
        due(x, 0, "back", 0, 0, 0, 1, 12);
    }

    /** Also a map that leads to none has its way back. */
    static void p16AMapThatLeadsToNone() {
        TimesByPowers x = new TimesByPowers(3, 2);
        Edges.put(x, 0, 3, 1, 2);
        Edges.numbers(x, 0, 2, 5);
        due(x, NONE, "map", 1, 0, 0, 0, 1);
        due(x, 12, "back", 0, 0, 0, 1, -2);
        due(x, 3, "back", 0, 0, 0, 1, -1);
    }

    // ---- promise 17

    static void p17PlacesAre0To9() {
        EDGES.range(0, 0, 9, "alike", 0, 0);
        EDGES.range(1, 0, 9, "alike", 0, 0);
        EDGES.range(0, 0, 9, "alike", 0, 9);
        EDGES.range(1, 0, 9, "alike", 9, 0);
    }

    static void p17AnEmptyPlaceIsNull() {
        EDGES.dueOfSample(NULL, "alike", 0, 4);
        EDGES.dueOfSample(NULL, "alike", 4, 0);
        EDGES.dueOfSample(NULL, "alike", 4, 5);
        EDGES.dueOfSample(NULL, "alike", 9, 9);
    }

    static void p17WorldsOfOtherRAreNotAlike() {
        TimesByPowers x = Edges.sample();
        for (int a = 0; a < 4; a++) {
            for (int b = 0; b < 4; b++) {
                due(x, a == b ? 1 : 0, "alike", a, b);
            }
        }
    }

    /** In the field of 2, c is 1 alone. */
    static void p17TheLeastField() {
        TimesByPowers x = new TimesByPowers(2, 1);
        Edges.put(x, 0, 0, 1, 1);
        Edges.put(x, 1, 1, 1, 1);
        Edges.put(x, 2, 0, 0, 1);
        due(x, 1, "alike", 0, 0);
        due(x, 0, "alike", 0, 1);
        due(x, 0, "alike", 0, 2);
        x.turn(3, 0, 1);
        due(x, 1, "alike", 0, 3);
        due(x, 1, "alike", 3, 0);
    }

    static void p17EachTurnIsAlikeBothWays() {
        TimesByPowers x = new TimesByPowers(5, 2);
        Edges.put(x, 0, 7, 0, 24);
        for (int c = 1; c < 25; c++) {
            x.turn(1, 0, c);
            due(x, 1, "alike", 0, 1);
            due(x, 1, "alike", 1, 0);
        }
        Edges.put(x, 1, 8, 0, 24);
        due(x, 0, "alike", 0, 1);
        Edges.put(x, 1, 7, 1, 24);
        due(x, 0, "alike", 0, 1);
        due(x, 0, "alike", 1, 0);
    }

    // ---- promise 18

    static void p18PlaceIs0To9() {
        EDGES.range(0, 0, 9, "stays", 0);
    }

    static void p18AnEmptyPlaceIsNull() {
        emptyIsNull("stays", 0);
    }

    /** From 1, c being 1, to all that are not 0. */
    static void p18From1ToAll() {
        TimesByPowers x = Edges.sample(2, 1);
        due(x, 1, "stays", 0);
        x = Edges.sample(2, 2);
        due(x, 1, "stays", 0);
        due(x, 3, "stays", 2);
        x = Edges.sample(5, 6);
        due(x, 4, "stays", 0);
        due(x, 24, "stays", 2);
        Edges.put(x, 4, 9, 0, 0, 9);
        due(x, 124, "stays", 4);
    }

    // ---- promise 19

    static void p19PlaceIs0To9() {
        EDGES.range(0, 0, 9, "kind", 0);
    }

    static void p19AnEmptyPlaceIsNull() {
        emptyIsNull("kind", 0);
    }

    static void p19ItIsToldAsTheFirstThatFits() {
        for (int place = 0; place < 4; place++) {
            EDGES.dueOfSample(place + 1, "kind", place);
        }
    }

    // ---- promise 20

    static void p20PlaceIs0To9() {
        EDGES.range(0, 0, 9, "is", 0, 0);
    }

    static void p20KindIs0To4() {
        EDGES.range(1, 0, 4, "is", 0, 0);
        EDGES.range(1, 0, 4, "is", 9, 0);
    }

    static void p20OfNothingItIs0() {
        for (int place = 4; place < 10; place++) {
            for (int kind = 0; kind <= 4; kind++) {
                EDGES.dueOfSample(0, "is", place, kind);
            }
        }
    }

    static void p20EachKind() {
        int[][] want = {{1, 1, 0, 0, 0}, {1, 0, 1, 0, 0}, {1, 0, 1, 1, 0}, {1, 0, 0, 0, 1}};
        for (int place = 0; place < 4; place++) {
            for (int kind = 0; kind <= 4; kind++) {
                EDGES.dueOfSample(want[place][kind], "is", place, kind);
            }
        }
    }

    static void p20StatusStays() {
        TimesByPowers x = Edges.sample();
        due(x, PLACE, "set", 0, 24, 0);
        x.is(0, 0);
        x.is(0, 2);
        x.is(9, 0);
        x.is(10, 0);
        due(x, 2, "status");
    }

    // ---- promise 21

    static void p21PlaceIs0To9() {
        EDGES.range(0, 0, 9, "as", 0, 0);
    }

    static void p21KindIs0To4() {
        EDGES.range(1, 0, 4, "as", 0, 0);
        EDGES.range(1, 0, 4, "as", 9, 0);
    }

    static void p21AnEmptyPlaceIsNull() {
        for (int kind = 0; kind <= 4; kind++) {
            emptyIsNull("as", 0, kind);
        }
    }

    static void p21WhatItIsNotIsKind() {
        int[][] want = {{1, 1, KIND, KIND, KIND}, {2, KIND, 2, KIND, KIND}, {2, KIND, 2, 2, KIND},
            {3, KIND, KIND, KIND, 3}};
        for (int place = 0; place < 4; place++) {
            for (int kind = 0; kind <= 4; kind++) {
                TimesByPowers x = Edges.sample();
                due(x, want[place][kind], "as", place, kind);
                due(x, want[place][kind] == KIND ? 3 : 0, "status");
            }
        }
    }

    // ---- promise 22

    static void p22PlaceIs0To9() {
        EDGES.range(0, 0, 9, "ask", 0, 0);
    }

    static void p22WhatIs0Or1() {
        EDGES.range(1, 0, 1, "ask", 0, 0);
        EDGES.range(1, 0, 1, "ask", 9, 0);
    }

    static void p22AnEmptyPlaceIsNull() {
        emptyIsNull("ask", 0, 0);
        emptyIsNull("ask", 0, 1);
    }

    static void p22TheTraceIsEmptyAheadOfIt() {
        TimesByPowers x = Edges.sample();
        x.ask(2, 1);
        due(x, 20, "trace", 2);
        due(x, 1, "ask", 0, 0);
        due(x, 10, "trace", 0);
        due(x, NONE, "trace", 1);
        due(x, NULL, "ask", 4, 0);
        due(x, NONE, "trace", 0);
    }

    static void p22NotIfItIsBad() {
        TimesByPowers x = Edges.sample();
        x.ask(2, 1);
        int[][] bad = {{10, 0}, {-1, 0}, {MAX, 1}, {MIN, 1}, {0, 2}, {0, -1}, {4, 2}, {0, MAX}};
        for (int[] b : bad) {
            due(x, BAD, "ask", b);
            due(x, 22, "trace", 0);
            due(x, 21, "trace", 1);
            due(x, 20, "trace", 2);
        }
    }

    /** t(0), MARK and d are added up as numbers, beyond the field's last element. */
    static void p22AnswersAreAddedAsNumbers() {
        TimesByPowers x = new TimesByPowers(2, 2);
        Edges.put(x, 0, 3, 3);
        due(x, 4, "ask", 0, 1);
        Edges.put(x, 0, 3, 1, 2);
        due(x, 3, "told", 0, 9);
        due(x, 6, "ask", 0, 1);
        Edges.put(x, 0, 3, 0, 0, 1);
        due(x, 6, "ask", 0, 0);
    }

    // ---- promise 23

    static void p23NoSuchNumberIsNone() {
        TimesByPowers x = Edges.sample();
        due(x, NONE, "trace", 0);
        x.ask(3, 0);
        due(x, 13, "trace", 0);
        due(x, 20, "trace", 2);
        due(x, NONE, "trace", 3);
        for (int i : Edges.FAR) {
            due(x, NONE, "trace", i);
        }
    }

    static void p23StatusStays() {
        TimesByPowers x = Edges.sample();
        due(x, NULL, "ask", 4, 0);
        due(x, NONE, "trace", 0);
        due(x, 1, "status");
    }

    // ---- promise 24

    static void p24WhatIs0To7() {
        EDGES.range(0, 0, 7, "count", 0);
    }

    static void p24EachOfThem() {
        TimesByPowers x = Edges.sample();
        int[] want = {4, 4, 1, 2, 1, 1, 27, 34};
        for (int what = 0; what < want.length; what++) {
            due(x, want[what], "count", what);
        }
    }

    static void p24FromNoneToAll() {
        TimesByPowers x = new TimesByPowers(2, 2);
        for (int row = 0; row < 8; row++) {
            due(x, row, "count", 0);
            x.row(row, 0, 0);
        }
        due(x, 8, "count", 0);
        for (int place = 0; place < 10; place++) {
            due(x, place, "count", 1);
            due(x, place, "count", 3);
            due(x, place, "count", 4);
            Edges.put(x, place, 0, 0, 1);
            due(x, 7, "count", 0);
            x.row(7, 0, 0);
        }
        due(x, 10, "count", 1);
        due(x, 0, "count", 2);
        due(x, 10, "count", 3);
        due(x, 10, "count", 4);
        due(x, 0, "count", 5);
    }

    // ---- promise 25

    static void p25ItIs0IfThereWasNoCall() {
        due(new TimesByPowers(2, 2), 0, "status");
    }

    static void p25BadLeavesIt() {
        TimesByPowers x = Edges.sample();
        int[][] ahead = {{0, 0, 1, 0, 1}, {0, 24, 0, 0, 1}, {4, 0, 0, 0, 0}};
        int[] finding = {5, 2, 1};
        for (int k = 0; k < ahead.length; k++) {
            x.copy(ahead[k][0], ahead[k][1], ahead[k][2], ahead[k][3], ahead[k][4]);
            x.row(8, 0, 1);
            x.kind(10);
            x.as(0, 5);
            x.count(8);
            x.field(27, 0, 0);
            due(x, finding[k], "status");
        }
    }

    static void p25CallsWithoutARowOrAPlaceLeaveIt() {
        TimesByPowers x = Edges.sample();
        due(x, SIZE, "row", 0, 0, -1);
        due(x, 2, "field", 1, 1, 0);
        due(x, NONE, "field", 1, 0, 3);
        due(x, NONE, "trace", 0);
        due(x, 4, "count", 0);
        due(x, 4, "status");
        due(x, 4, "status");
        due(x, STORE, "copy", 0, 0, 1, 0, 1);
        due(x, 5, "status");
    }

    static void p25NoneIsNoFinding() {
        TimesByPowers x = new TimesByPowers(2, 2);
        Edges.put(x, 0, 2, 1);
        Edges.numbers(x, 0, 1, 1);
        due(x, NULL, "kind", 9);
        due(x, NONE, "map", 1, 0, 0, 0, 1);
        due(x, 0, "status");
        due(x, NULL, "kind", 9);
        due(x, NONE, "kernel", 0, 1, 1);
        due(x, 0, "status");
    }

    static void p25CallsThatFindNothingMakeIt0() {
        makesIt0("row", new int[][] {{4, 0, 0}, {0, 1, 24}});
        makesIt0("set", new int[][] {{0, 0, 0}, {0, 23, -1}});
        makesIt0("copy", new int[][] {{0, 0, 0, 1, 2}, {0, 24, 3, 0, 0}});
        makesIt0("drop", new int[][] {{0}, {3}});
        makesIt0("world", new int[][] {{0, 0, 0, 1}, {9, 0, 20, 3}});
        makesIt0("turn", new int[][] {{0, 0, 1}, {9, 2, 26}});
        makesIt0("map", new int[][] {{0, 0, 0, 0, 1}, {9, 3, 0, 19, 4}});
        makesIt0("told", new int[][] {{1, 0}, {1, 1}, {1, 2}, {1, 3}, {1, 4}, {1, 5}, {1, 6}, {1, 7},
            {1, 8}, {1, 9}, {2, 9}});
        makesIt0("acts", new int[][] {{0, 0, 0}, {3, 2186, 26}});
        makesIt0("sum", new int[][] {{0, 0, -1}, {0, 0, 0}, {0, 3, 1}, {0, 3, MAX}});
        makesIt0("order", new int[][] {{0, 0}, {3, 26}});
        makesIt0("kernel", new int[][] {{0, 0, NONE}, {0, 0, 0}, {0, 1, 1}, {0, 1, -1}});
        makesIt0("back", new int[][] {{0, 0, 0, 1, -2}, {0, 0, 0, 1, -1}, {0, 0, 0, 1, 0},
            {0, 0, 0, 1, MAX}});
        makesIt0("alike", new int[][] {{0, 0}, {0, 1}});
        makesIt0("stays", new int[][] {{0}});
        makesIt0("kind", new int[][] {{0}, {3}});
        makesIt0("as", new int[][] {{0, 0}, {2, 2}});
        makesIt0("ask", new int[][] {{0, 0}, {0, 1}});
    }

    private static void makesIt0(String call, int[][] given) {
        for (int[] a : given) {
            TimesByPowers x = Edges.sample();
            due(x, STORE, "copy", 0, 0, 1, 0, 1);
            due(x, 5, "status");
            Calls.of(x, call, a);
            CHECK.due("status() after " + Calls.text(call, a), x.status(), 0);
        }
    }

    static void p25TheLatestOfSeveral() {
        TimesByPowers x = Edges.sample();
        due(x, STORE, "copy", 0, 0, 1, 0, 1);
        due(x, PLACE, "set", 0, 24, 0);
        due(x, 2, "status");
        due(x, KIND, "as", 0, 4);
        due(x, NULL, "drop", 4);
        due(x, 1, "status");
        due(x, NULL, "drop", 4);
        due(x, SIZE, "row", 4, 0, -1);
        due(x, 4, "status");
    }
}
