/** "Terms" and sections 1 to 3: a test for each sentence that names a boundary. */
public final class TermsEdgesTest {
    private static final int NONE = Edges.NONE, BAD = Edges.BAD;
    private static final int NULL = Edges.NULL, PLACE = Edges.PLACE, KIND = Edges.KIND,
        SIZE = Edges.SIZE, STORE = Edges.STORE;

    private static final Check CHECK = new Check();
    private static final Edges EDGES = new Edges(CHECK);

    public static void main(String[] args) throws IllegalAccessException {
        Sentences.run(TermsEdgesTest.class, CHECK);
        CHECK.end("TermsEdgesTest");
    }

    private static void due(TimesByPowers x, int want, String call, int... a) {
        EDGES.due(x, want, call, a);
    }

    // ---- terms

    static void refusalsHaveTheirNumbers() {
        CHECK.due("NONE", TimesByPowers.NONE, -1000000);
        CHECK.due("BAD", TimesByPowers.BAD, -1000001);
        CHECK.due("FULL", TimesByPowers.FULL, -1000003);
    }

    static void findingsAre1000010Less1To5() {
        TimesByPowers x = Edges.sample();
        due(x, -1000011, "set", 4, 0, 0);
        due(x, 1, "status");
        due(x, -1000012, "set", 0, 24, 0);
        due(x, 2, "status");
        due(x, -1000013, "told", 0, 9);
        due(x, 3, "status");
        due(x, -1000014, "row", 0, 0, -1);
        due(x, 4, "status");
        due(x, -1000015, "copy", 0, 0, 1, 0, 1);
        due(x, 5, "status");
        due(x, -1000011, "kind", 4);
        due(x, 1, "status");
    }

    static void numbersGoFrom0On() {
        TimesByPowers x = Edges.sample();
        due(x, 7, "set", 0, 0, 7);
        due(x, 1, "kind", 0);
        due(x, 1, "told", 0, 0);
        due(x, 0, "kernel", 0, 0, 0);
        due(x, 1, "ask", 0, 0);
        due(x, 10, "trace", 0);
        due(x, 4, "count", 0);
    }

    /** Each call here also has what a finding would tell: a missing row, an empty place .. */
    static void badGoesAheadOfFindings() {
        EDGES.dueOfSample(BAD, "row", 0, 3, -1);
        EDGES.dueOfSample(BAD, "row", 8, 0, -1);
        EDGES.dueOfSample(BAD, "copy", 4, 0, 8, 0, 0);
        EDGES.dueOfSample(BAD, "copy", 8, -1, 4, 0, 0);
        EDGES.dueOfSample(BAD, "world", 10, 4, 0, 1);
        EDGES.dueOfSample(BAD, "world", 0, 4, 0, 4);
        EDGES.dueOfSample(BAD, "world", 0, 4, -1, 0);
        EDGES.dueOfSample(BAD, "turn", 0, 4, 0);
        EDGES.dueOfSample(BAD, "turn", 10, 4, 1);
        EDGES.dueOfSample(BAD, "turn", 0, 4, 27);
        EDGES.dueOfSample(BAD, "map", 10, 4, 0, 0, 1);
        EDGES.dueOfSample(BAD, "map", 0, 4, 8, 0, 1);
        EDGES.dueOfSample(BAD, "map", 0, 4, 4, -1, 5);
        EDGES.dueOfSample(BAD, "told", 4, 10);
        EDGES.dueOfSample(BAD, "acts", 4, 2187, 0);
        EDGES.dueOfSample(BAD, "acts", 4, 0, 27);
        EDGES.dueOfSample(BAD, "sum", 4, 2187, 0);
        EDGES.dueOfSample(BAD, "sum", 4, 0, -2);
        EDGES.dueOfSample(BAD, "order", 4, 27);
        EDGES.dueOfSample(BAD, "kernel", 4, 2187, NONE);
        EDGES.dueOfSample(BAD, "back", 4, 8, 0, 1, 0);
        EDGES.dueOfSample(BAD, "back", 4, 4, 0, 5, 0);
        EDGES.dueOfSample(BAD, "back", 4, 4, -1, 1, -3);
        EDGES.dueOfSample(BAD, "alike", 4, 10);
        EDGES.dueOfSample(BAD, "alike", 10, 4);
        EDGES.dueOfSample(BAD, "as", 4, 5);
        EDGES.dueOfSample(BAD, "as", 0, 5);
        EDGES.dueOfSample(BAD, "ask", 4, 2);
    }

    static void ofSeveralFindingsTheFirstInTime() {
        EDGES.dueOfSample(NULL, "set", 4, -1, 0);
        EDGES.dueOfSample(NULL, "copy", 4, -1, 0, 0, 1);
        EDGES.dueOfSample(NULL, "copy", 0, 0, 4, 0, 25);
        EDGES.dueOfSample(STORE, "copy", 0, -1, 1, 0, 1);
        EDGES.dueOfSample(STORE, "copy", 0, 0, 2, 0, 3);
        EDGES.dueOfSample(NULL, "world", 0, 4, -1, 1);
        EDGES.dueOfSample(NULL, "map", 0, 4, 0, -1, 1);
        EDGES.dueOfSample(NULL, "map", 0, 0, 4, -1, 1);
        EDGES.dueOfSample(NULL, "back", 4, 0, -1, 1, 0);
        EDGES.dueOfSample(NULL, "back", 0, 4, -1, 1, 0);
        EDGES.dueOfSample(NULL, "told", 4, 9);
        EDGES.dueOfSample(NULL, "as", 4, 1);
    }

    /** No promise tells FULL: with all rows and places in use, new ones take their place. */
    static void fullRowsAndAFullShelfRefuseNothing() {
        TimesByPowers x = new TimesByPowers(2, 1);
        for (int row = 0; row < 8; row++) {
            due(x, 24, "row", row, 2, 24);
            due(x, 1, "set", row, 0, 1);
            due(x, 1, "set", row, 1, 1);
        }
        for (int place = 0; place < 10; place++) {
            due(x, 1, "world", place, 7, 0, 1);
        }
        due(x, 8, "count", 0);
        due(x, 10, "count", 1);
        due(x, 1, "world", 9, 7, 0, 1);
        due(x, 1, "turn", 9, 0, 1);
        due(x, 1, "map", 9, 0, 7, 0, 1);
        due(x, 24, "row", 0, 0, 24);
        due(x, 8, "count", 0);
        due(x, 10, "count", 1);
    }

    /** Fewer than none is SIZE of a new row; fewer than none to copy is PLACE. */
    static void sizeIsFoundOfNewRowsAlone() {
        EDGES.dueOfSample(SIZE, "row", 0, 0, -1);
        EDGES.dueOfSample(PLACE, "copy", 0, 0, 0, 0, -1);
    }

    /** A world that is not that is found by as() and MARK; is() answers 0. */
    static void kindIsNotFoundByIs() {
        EDGES.dueOfSample(KIND, "as", 0, 2);
        EDGES.dueOfSample(KIND, "told", 0, 9);
        EDGES.dueOfSample(0, "is", 0, 2);
    }

    // ---- section 1

    static void elementsAre0ToPToThePowerNLess1() {
        for (int p : Edges.PRIMES) {
            for (int n = 1; n <= 6; n++) {
                int q = Edges.power(p, n);
                TimesByPowers x = new TimesByPowers(p, n);
                due(x, q, "count", 6);
                due(x, q - 1, "field", q - 1, 0, 0);
                due(x, q - 1, "field", q - 1, 1, 1);
                due(x, BAD, "field", q, 0, 0);
                due(x, BAD, "field", 0, q, 0);
                due(x, BAD, "field", -1, 0, 0);
                due(x, BAD, "field", 0, -1, 0);
            }
        }
    }

    static void mIsOfLeastCodeAndNoProduct() {
        for (int p : Edges.PRIMES) {
            for (int n = 1; n <= 6; n++) {
                TimesByPowers x = new TimesByPowers(p, n);
                due(x, new Model(p, n).m, "count", 7);
            }
        }
    }

    static void forN1MIsX() {
        for (int p : Edges.PRIMES) {
            TimesByPowers x = new TimesByPowers(p, 1);
            due(x, p, "count", 7);
            for (int a = 0; a < p; a++) {
                for (int b = 0; b < p; b++) {
                    due(x, (a + b) % p, "field", a, b, 0);
                    due(x, a * b % p, "field", a, b, 1);
                }
            }
            due(x, BAD, "field", p, 1, 1);
        }
    }

    /** x is p; its powers below n are their own codes, that to the n is what m leaves of it. */
    static void theFigureOfPower0IsTheLowest() {
        for (int p : Edges.PRIMES) {
            for (int n = 2; n <= 6; n++) {
                TimesByPowers x = new TimesByPowers(p, n);
                for (int k = 0; k < n; k++) {
                    due(x, Edges.power(p, k), "field", p, k, 2);
                }
                int rest = x.count(7) - x.count(6);
                due(x, 0, "field", x.field(p, n, 2), rest, 0);
            }
        }
    }

    static void lengthOfNothingIsLess1() {
        TimesByPowers x = Edges.sample();
        for (int place = 0; place < 4; place++) {
            due(x, -1, "sum", place, 0, -1);
            due(x, 0, "sum", place, 0, 0);
            due(x, 0, "sum", place, 1, -1);
            due(x, 1, "sum", place, 1, 0);
        }
    }

    /** A polynomial of degree 6 is the greatest; its length is 6 r. */
    static void lengthIsTheGreatestKWithANumber() {
        TimesByPowers x = Edges.sample();
        int[] r = {1, 2, 2, 3};
        for (int place = 0; place < 4; place++) {
            int length = 6 * r[place];
            due(x, length, "sum", place, 2186, -1);
            CHECK.holds("its last number", x.sum(place, 2186, length) != 0);
            due(x, 0, "sum", place, 2186, length + 1);
            due(x, r[place], "sum", place, 3, -1);
            due(x, 0, "sum", place, 2, -1);
        }
    }

    // ---- section 2

    static void rowsAreMissingAtFirst() {
        TimesByPowers x = new TimesByPowers(2, 2);
        due(x, 0, "count", 0);
        for (int row = 0; row < 8; row++) {
            due(x, NULL, "set", row, 0, 0);
            due(x, NULL, "copy", row, 0, row, 0, 0);
            due(x, NULL, "world", 0, row, 0, 1);
            due(x, NULL, "drop", row);
        }
    }

    static void aRowWithoutItemsIsNotMissing() {
        TimesByPowers x = new TimesByPowers(2, 2);
        for (int lane = 0; lane < 3; lane++) {
            due(x, 0, "row", 0, lane, 0);
            due(x, 1, "count", 0);
            due(x, PLACE, "set", 0, 0, 0);
            due(x, 0, "copy", 0, 0, 0, 0, 0);
            due(x, PLACE, "copy", 0, 0, 0, 0, 1);
            due(x, PLACE, "world", 0, 0, 0, 1);
            due(x, 0, "drop", 0);
            due(x, NULL, "drop", 0);
        }
    }

    static void itemsAre0AtFirst() {
        for (int lane = 0; lane < 3; lane++) {
            TimesByPowers x = new TimesByPowers(5, 6);
            x.row(0, lane, 24);
            for (int i = 0; i < 24; i++) {
                CHECK.due("item " + i, Edges.item(x, 0, lane, i), 0);
            }
        }
    }

    static void placesAreEmptyAtFirst() {
        TimesByPowers x = new TimesByPowers(2, 2);
        for (int what = 1; what <= 5; what++) {
            due(x, 0, "count", what);
        }
        for (int place = 0; place < 10; place++) {
            due(x, NULL, "kind", place);
            due(x, 0, "is", place, 0);
            due(x, 0, "clear", place);
        }
    }

    static void worldsNeverChange() {
        TimesByPowers x = Edges.sample();
        Edges.put(x, 4, 5, 7, 11);
        x.turn(5, 4, 4);
        int turned = x.field(7, x.field(4, 2, 2), 1);
        due(x, turned, "told", 5, 2);
        x.turn(4, 4, 3);
        CHECK.holds("another one stands there", x.told(4, 2) != 7);
        due(x, turned, "told", 5, 2);
        x.clear(4);
        due(x, turned, "told", 5, 2);
        x.set(0, 0, 9);
        x.drop(0);
        due(x, 1, "told", 0, 1);
        due(x, 5, "told", 5, 1);
    }

    static void kindsGoByRAndHeight() {
        TimesByPowers x = new TimesByPowers(2, 1);
        due(x, NULL, "kind", 0);
        int[][] worlds = {{0, 1}, {1, 1}, {0, 1, 1}, {0, 0, 1}, {1, 0, 1}, {0, 1, 0, 1},
            {0, 0, 1, 1}, {0, 0, 0, 1}};
        int[] heights = {1, 1, 1, 2, 2, 1, 2, 3};
        int[] kinds = {1, 1, 2, 3, 3, 4, 4, 4};
        for (int k = 0; k < worlds.length; k++) {
            CHECK.due("kind of world " + k, Edges.put(x, 0, worlds[k]), kinds[k]);
            due(x, kinds[k], "kind", 0);
            due(x, heights[k], "told", 0, 6);
        }
    }

    /** d 1 to n: 0 and numbers have T less them, a generator a polynomial of degree n. */
    static void ownIsTheMonicOneOfLeastDegree() {
        for (int p : Edges.PRIMES) {
            for (int n = 1; n <= 6; n++) {
                TimesByPowers x = new TimesByPowers(p, n);
                for (int number = 0; number < p; number++) {
                    Edges.put(x, 0, number, 1);
                    due(x, p + (p - number) % p, "told", 0, 5);
                }
                if (n > 1) {
                    Edges.put(x, 0, p, 1);
                    due(x, x.count(7), "told", 0, 5);
                }
            }
        }
    }

    static void orderOf0Is1() {
        TimesByPowers x = Edges.sample();
        for (int place = 0; place < 4; place++) {
            due(x, 1, "order", place, 0);
            for (int z = 1; z < 27; z++) {
                int order = x.order(place, z);
                CHECK.holds("order of " + z + " has T", order >= 3);
                due(x, 0, "acts", place, order, z);
            }
        }
    }

    /** One of degree 0, 1, 2 .. less than n cannot do, where LEAST is of degree n. */
    static void wholeIsMonicOfDegreeN() {
        for (int p : Edges.PRIMES) {
            for (int n = 1; n <= 6; n++) {
                TimesByPowers x = Edges.sample(p, n);
                for (int place = 0; place < 4; place++) {
                    int whole = x.told(place, 7);
                    CHECK.due("figure n of WHOLE", whole / Edges.power(p, n), 1);
                    int least = x.told(place, 8);
                    CHECK.holds("LEAST is no more than WHOLE", least >= p && least < 2 * x.count(6));
                    due(x, x.count(6), "kernel", place, least, NONE);
                }
            }
        }
    }

    static void aMapHasALengthOf1To4() {
        EDGES.range(4, 1, 4, "map", 5, 0, 0, 0, 1);
        EDGES.range(3, 1, 4, "back", 0, 0, 0, 1, -2);
    }

    /** In a field of n 1 all change places: each map leads a world to itself. */
    static void aMapLeadsToTheSameR() {
        for (int r = 1; r <= 3; r++) {
            for (int l = 1; l <= 4; l++) {
                TimesByPowers x = new TimesByPowers(5, 1);
                int[] t = {2, 3, 4, 1};
                Edges.put(x, 0, java.util.Arrays.copyOf(t, r + 1));
                Edges.numbers(x, 1, 4, 0, 3, 2, 1);
                x.set(1, l, 3);
                due(x, r == 3 ? 4 : r, "map", 1, 0, 1, 0, l);
                for (int what = 0; what <= 4; what++) {
                    due(x, x.told(0, what), "told", 1, what);
                }
            }
        }
    }

    static void backIsOfDegree4AtMost() {
        TimesByPowers x = new TimesByPowers(2, 2);
        Edges.put(x, 0, 1, 3, 1);
        Edges.numbers(x, 0, 3, 3, 2, 2);
        due(x, 20, "back", 0, 0, 0, 3, -2);
        due(x, 5, "back", 0, 0, 0, 3, -1);
        int[] v = {0, 0, 2, 3, 3, 2, 0};
        for (int k = 0; k < v.length; k++) {
            due(x, v[k], "back", 0, 0, 0, 3, k);
        }
        // Here T T T T T + T T T T + T T + 1 is the least: of degree 5.
        int[] t = {3, 2, 1};
        int[] u = {1, 3, 2, 1};
        Model model = new Model(2, 2);
        CHECK.holds("one of degree 5", model.quotient(model.sumOf(t, 53), u) != null);
        Edges.put(x, 0, t);
        Edges.numbers(x, 0, u);
        for (int k = -2; k < 9; k++) {
            due(x, NONE, "back", 0, 0, 0, 3, k);
        }
        due(x, 0, "status");
    }

    static void turnedByAnElementThatIsNot0() {
        for (int p : Edges.PRIMES) {
            for (int n = 1; n <= 6; n++) {
                int q = Edges.power(p, n);
                TimesByPowers x = Edges.sample(p, n);
                due(x, BAD, "turn", 4, 3, 0);
                due(x, BAD, "turn", 4, 3, q);
                due(x, BAD, "turn", 4, 3, -1);
                due(x, 0, "is", 4, 0);
                due(x, 4, "turn", 4, 3, 1);
                due(x, 4, "turn", 5, 3, q - 1);
                for (int k = 0; k <= 3; k++) {
                    due(x, 1, "told", 4, k + 1);
                    int exponent = Edges.power(p, k) - 1;
                    due(x, x.field(q - 1, exponent, 2), "told", 5, k + 1);
                }
            }
        }
    }

    // ---- section 3

    static void theTraceHasTheFirst16() {
        TimesByPowers x = Edges.sample();
        for (int place = 0; place < 4; place++) {
            for (int what = 0; what < 2; what++) {
                x.ask(place, what);
                due(x, NONE, "trace", 3);
                due(x, NONE, "trace", 15);
                due(x, NONE, "trace", 16);
                due(x, NONE, "trace", 17);
            }
        }
    }

    /** Begun anew each time, so that many asks never fill it up. */
    static void manyAsksNeverFillTheTrace() {
        TimesByPowers x = Edges.sample();
        for (int k = 0; k < 60; k++) {
            due(x, 3 + 1, "ask", 3, 0);
            due(x, 13, "trace", 0);
            due(x, 10, "trace", 1);
            due(x, 20, "trace", 2);
            due(x, NONE, "trace", 3);
        }
    }

    static void theBodyOfTheNearestKindBegins() {
        TimesByPowers x = Edges.sample();
        int[][][] bodies = {{{10}, {23, 20, 10}}, {{11, 10}, {21, 20}}, {{12, 11, 10}, {22, 21, 20}},
            {{13, 10, 20}, {20}}};
        int[][] answers = {{1, 2}, {12, 2}, {24, 1}, {4, 1}};
        for (int place = 0; place < 4; place++) {
            for (int what = 0; what < 2; what++) {
                due(x, answers[place][what], "ask", place, what);
                int[] left = bodies[place][what];
                for (int i = 0; i <= left.length; i++) {
                    due(x, i < left.length ? left[i] : NONE, "trace", i);
                }
            }
        }
    }
}
