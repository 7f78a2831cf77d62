/** Promises 7 to 10: a test for each sentence that names a boundary. */
public final class WorldEdgesTest {
    private static final int NONE = Edges.NONE, BAD = Edges.BAD;
    private static final int NULL = Edges.NULL, PLACE = Edges.PLACE;
    private static final int MIN = Edges.MIN, MAX = Edges.MAX;

    private static final Check CHECK = new Check();
    private static final Edges EDGES = new Edges(CHECK);

    public static void main(String[] args) throws IllegalAccessException {
        Sentences.run(WorldEdgesTest.class, CHECK);
        CHECK.end("WorldEdgesTest");
    }

    private static void due(TimesByPowers x, int want, String call, int... a) {
        EDGES.due(x, want, call, a);
    }

    /** An i below 0, beyond the end, or one whose sum with last wraps around. */
    private static void noSuchItems(int size, int last, int at, String call, int... a) {
        int[] given = a.clone();
        int[] near = {-1, -2, -last, -last - 1, size - last, size - 1, size, size + 1, MAX - last,
            MAX - last - 1, MAX - last + 1, MIN + last, MIN + size};
        for (int i : near) {
            given[at] = i;
            EDGES.dueOfSample(PLACE, call, given);
        }
        for (int i : Edges.FAR) {
            given[at] = i;
            EDGES.dueOfSample(PLACE, call, given);
        }
    }

    // ---- promise 7

    static void p07PlaceIs0To9() {
        EDGES.range(0, 0, 9, "world", 0, 0, 0, 1);
        EDGES.range(0, 0, 9, "world", 0, 4, 0, 1);
    }

    static void p07RowIs0To7() {
        EDGES.range(1, 0, 7, "world", 0, 0, 0, 1);
    }

    static void p07RIs1To3() {
        EDGES.range(3, 1, 3, "world", 0, 0, 0, 1);
        EDGES.range(3, 1, 3, "world", 0, 4, 0, 1);
    }

    static void p07AMissingRowIsNull() {
        for (int row = 4; row < 8; row++) {
            EDGES.dueOfSample(NULL, "world", 0, row, 0, 1);
            EDGES.dueOfSample(NULL, "world", 0, row, -1, 3);
            EDGES.dueOfSample(NULL, "world", 0, row, MAX, 3);
        }
    }

    static void p07NoSuchItemsArePlace() {
        for (int r = 1; r <= 3; r++) {
            noSuchItems(24, r, 2, "world", 0, 0, 0, r);
            EDGES.dueOfSample(r == 3 ? 4 : r, "world", 0, 0, 0, r);
            EDGES.dueOfSample(r == 3 ? 4 : r, "world", 0, 0, 23 - r, r);
            EDGES.dueOfSample(PLACE, "world", 0, 3, 0, r);
        }
        EDGES.dueOfSample(1, "world", 0, 2, 0, 1);
        EDGES.dueOfSample(PLACE, "world", 0, 2, 0, 2);
        EDGES.dueOfSample(PLACE, "world", 0, 2, 1, 1);
    }

    static void p07AnItemThatIsNoElementIsBad() {
        for (int p : Edges.PRIMES) {
            for (int n = 1; n <= 6; n++) {
                int q = Edges.power(p, n);
                int[] wrong = {q, q + 1, -1, -q, MIN, MAX, NONE, 1 << 30};
                for (int r = 1; r <= 3; r++) {
                    for (int k = 0; k <= r; k++) {
                        oneItem(Edges.sample(p, n), r, k, q - 1, wrong);
                    }
                }
            }
        }
    }

    private static void oneItem(TimesByPowers x, int r, int k, int last, int[] wrong) {
        x.set(1, 5 + k, last);
        CHECK.holds("the last element is taken", x.world(9, 1, 5, r) > 0);
        due(x, last, "told", 9, k + 1);
        for (int v : wrong) {
            x.set(1, 5 + k, v);
            due(x, BAD, "world", 9, 1, 5, r);
        }
        due(x, last, "told", 9, k + 1);
    }

    static void p07TheLastNumberIsNot0() {
        for (int r = 1; r <= 3; r++) {
            TimesByPowers x = Edges.sample();
            x.set(1, r, 0);
            due(x, BAD, "world", 9, 1, 0, r);
            due(x, 0, "is", 9, 0);
            x.set(1, r, 1);
            CHECK.holds("1 is taken", x.world(9, 1, 0, r) > 0);
        }
    }

    static void p07OtherNumbersMayBe0() {
        for (int r = 1; r <= 3; r++) {
            for (int k = 0; k < r; k++) {
                TimesByPowers x = Edges.sample();
                x.set(1, k, 0);
                CHECK.holds("0 is taken", x.world(9, 1, 0, r) > 0);
                due(x, 0, "told", 9, k + 1);
            }
        }
    }

    static void p07ItemsAroundAreNotLookedAt() {
        TimesByPowers x = Edges.sample();
        Edges.numbers(x, 5, -1, 2, 3, MAX);
        due(x, 1, "world", 9, 5, 1, 1);
        due(x, 2, "told", 9, 1);
        due(x, 3, "told", 9, 2);
        due(x, 0, "told", 9, 3);
        due(x, 0, "told", 9, 4);
        due(x, BAD, "world", 9, 5, 0, 1);
        due(x, BAD, "world", 9, 5, 1, 2);
    }

    /** The items that are there are wrong, too, but the place is found first. */
    static void p07PlaceGoesAheadOfTheLaterBad() {
        TimesByPowers x = Edges.sample();
        Edges.numbers(x, 5, -1, 27);
        due(x, PLACE, "world", 9, 5, 0, 2);
        due(x, BAD, "world", 9, 5, 0, 1);
        Edges.numbers(x, 5, 0, 0);
        due(x, PLACE, "world", 9, 5, 0, 2);
        due(x, BAD, "world", 9, 5, 0, 1);
    }

    static void p07TheLaterBadLeavesStatus() {
        TimesByPowers x = Edges.sample();
        Edges.numbers(x, 5, -1, 0);
        due(x, PLACE, "world", 9, 5, 0, 2);
        due(x, BAD, "world", 9, 5, 0, 1);
        due(x, 2, "status");
    }

    static void p07TakesThePlaceOfAWorld() {
        TimesByPowers x = Edges.sample();
        due(x, 4, "world", 0, 0, 20, 3);
        due(x, 3, "told", 0, 0);
        due(x, 1, "world", 3, 0, 0, 1);
        due(x, 1, "told", 3, 0);
        due(x, 0, "told", 3, 3);
        due(x, 0, "told", 3, 4);
        due(x, 4, "count", 1);
    }

    static void p07TellsTheKind() {
        TimesByPowers x = Edges.sample();
        due(x, 1, "world", 4, 0, 0, 1);
        due(x, 2, "world", 5, 0, 0, 2);
        due(x, 4, "world", 6, 0, 0, 3);
        Edges.numbers(x, 5, 0, 0, 1);
        due(x, 3, "world", 7, 5, 0, 2);
        due(x, 3, "kind", 7);
    }

    // ---- promise 8

    static void p08PlacesAre0To9() {
        EDGES.range(0, 0, 9, "turn", 0, 0, 1);
        EDGES.range(1, 0, 9, "turn", 0, 0, 1);
        EDGES.range(0, 0, 9, "turn", 0, 4, 1);
    }

    static void p08CIs1ToTheLastElement() {
        for (int p : Edges.PRIMES) {
            for (int n = 1; n <= 6; n++) {
                EDGES.rangeIn(p, n, 2, 1, Edges.power(p, n) - 1, "turn", 0, 1, 1);
                EDGES.rangeIn(p, n, 2, 1, Edges.power(p, n) - 1, "turn", 0, 9, 1);
            }
        }
    }

    static void p08AnEmptyPlaceIsNull() {
        for (int place = 4; place < 10; place++) {
            EDGES.dueOfSample(NULL, "turn", 0, place, 1);
            EDGES.dueOfSample(NULL, "turn", place, place, 26);
        }
    }

    static void p08ToAnEmptyPlaceOrOneInUseOrItself() {
        TimesByPowers x = Edges.sample();
        due(x, 4, "turn", 4, 3, 5);
        due(x, 4, "turn", 0, 3, 5);
        due(x, 4, "turn", 3, 3, 5);
        for (int what = 0; what <= 4; what++) {
            due(x, x.told(4, what), "told", 0, what);
            due(x, x.told(4, what), "told", 3, what);
        }
        due(x, x.field(5, 26, 2), "told", 3, 4);
        due(x, 5, "count", 1);
    }

    static void p08TellsTheKind() {
        TimesByPowers x = Edges.sample();
        int[] kinds = {1, 2, 3, 4};
        for (int place = 0; place < 4; place++) {
            due(x, kinds[place], "turn", 9, place, 26);
        }
    }

    // ---- promise 9

    static void p09PlacesAre0To9() {
        EDGES.range(0, 0, 9, "map", 0, 0, 0, 0, 1);
        EDGES.range(1, 0, 9, "map", 0, 0, 0, 0, 1);
        EDGES.range(0, 0, 9, "map", 0, 4, 4, 0, 1);
    }

    static void p09RowIs0To7() {
        EDGES.range(2, 0, 7, "map", 0, 0, 0, 0, 1);
        EDGES.range(2, 0, 7, "map", 0, 4, 0, 0, 1);
    }

    static void p09LIs1To4() {
        EDGES.range(4, 1, 4, "map", 0, 0, 0, 0, 1);
        EDGES.range(4, 1, 4, "map", 0, 4, 4, 0, 1);
    }

    static void p09AnEmptyPlaceOrAMissingRowIsNull() {
        EDGES.dueOfSample(NULL, "map", 0, 4, 0, 0, 1);
        EDGES.dueOfSample(NULL, "map", 0, 0, 4, 0, 1);
        EDGES.dueOfSample(NULL, "map", 0, 4, 4, 0, 1);
        EDGES.dueOfSample(NULL, "map", 0, 9, 0, MAX, 4);
        EDGES.dueOfSample(NULL, "map", 0, 0, 7, MIN, 4);
    }

    static void p09NoSuchItemsArePlace() {
        for (int l = 1; l <= 4; l++) {
            noSuchItems(24, l, 3, "map", 5, 0, 0, 0, l);
            // All numbers are 1, which commute: each map leads to the same world.
            EDGES.dueOfSample(1, "map", 5, 0, 0, 0, l);
            EDGES.dueOfSample(1, "map", 5, 0, 0, 23 - l, l);
            EDGES.dueOfSample(PLACE, "map", 5, 0, 3, 0, l);
        }
        EDGES.dueOfSample(1, "map", 5, 0, 2, 0, 1);
        EDGES.dueOfSample(PLACE, "map", 5, 0, 2, 0, 2);
        EDGES.dueOfSample(PLACE, "map", 5, 0, 2, 1, 1);
    }

    static void p09AnItemThatIsNoElementIsBad() {
        for (int p : Edges.PRIMES) {
            for (int n = 1; n <= 6; n++) {
                int q = Edges.power(p, n);
                int[] wrong = {q, q + 1, -1, -q, MIN, MAX, NONE, 1 << 30};
                for (int l = 1; l <= 4; l++) {
                    for (int k = 0; k <= l; k++) {
                        TimesByPowers x = Edges.sample(p, n);
                        x.set(1, 5 + k, q - 1);
                        CHECK.holds("the last element is taken", x.map(9, 1, 1, 5, l) != BAD);
                        for (int v : wrong) {
                            x.set(1, 5 + k, v);
                            due(x, BAD, "map", 9, 1, 1, 5, l);
                        }
                    }
                }
            }
        }
    }

    static void p09TheFirstAndTheLastNumberAreNot0() {
        for (int l = 1; l <= 4; l++) {
            for (int k = 0; k <= l; k++) {
                TimesByPowers x = Edges.sample();
                x.set(1, k, 0);
                due(x, k == 0 || k == l ? BAD : 1, "map", 9, 0, 1, 0, l);
                due(x, k == 0 || k == l ? 0 : 1, "is", 9, 0);
            }
        }
    }

    static void p09ItemsAroundAreNotLookedAt() {
        TimesByPowers x = Edges.sample();
        Edges.numbers(x, 5, -1, 1, 1, MAX);
        due(x, 1, "map", 9, 0, 5, 1, 1);
        due(x, BAD, "map", 9, 0, 5, 0, 1);
        due(x, BAD, "map", 9, 0, 5, 1, 2);
    }

    static void p09FindingsGoAheadOfTheLaterBad() {
        TimesByPowers x = Edges.sample();
        Edges.numbers(x, 5, 0, -1, 0);
        due(x, NULL, "map", 9, 4, 5, 0, 1);
        due(x, PLACE, "map", 9, 0, 5, 0, 3);
        due(x, BAD, "map", 9, 0, 5, 0, 2);
        due(x, 2, "status");
    }

    /** 2 + Y of new(2, 2) is led to none by 1 + Y: as by BAD, nothing is put there. */
    static void p09ItLeadsToNone() {
        TimesByPowers x = new TimesByPowers(2, 2);
        Edges.put(x, 0, 2, 1);
        Edges.put(x, 1, 1, 1, 1);
        Edges.numbers(x, 0, 1, 1);
        due(x, NULL, "kind", 9);
        due(x, NONE, "map", 2, 0, 0, 0, 1);
        due(x, 0, "status");
        due(x, 0, "is", 2, 0);
        due(x, NONE, "map", 1, 0, 0, 0, 1);
        due(x, 2, "kind", 1);
        due(x, NONE, "map", 0, 0, 0, 0, 1);
        due(x, 2, "told", 0, 1);
    }

    static void p09TheLaterBadGoesAheadOfNone() {
        TimesByPowers x = new TimesByPowers(2, 2);
        Edges.put(x, 0, 2, 1);
        Edges.numbers(x, 0, 1, 1, 0, 0, 4);
        due(x, NONE, "map", 2, 0, 0, 0, 1);
        due(x, BAD, "map", 2, 0, 0, 0, 2);
        due(x, BAD, "map", 2, 0, 0, 0, 4);
    }

    static void p09ToAnEmptyPlaceOrOneInUseOrItself() {
        TimesByPowers x = new TimesByPowers(3, 2);
        Edges.put(x, 0, 3, 1, 2);
        Edges.put(x, 1, 5, 1);
        Edges.numbers(x, 0, 4, 1);
        due(x, 2, "map", 2, 0, 0, 0, 1);
        due(x, 2, "map", 1, 0, 0, 0, 1);
        due(x, 2, "map", 0, 0, 0, 0, 1);
        for (int what = 0; what <= 4; what++) {
            due(x, x.told(2, what), "told", 1, what);
            due(x, x.told(2, what), "told", 0, what);
        }
        due(x, 3, "count", 1);
    }

    /** The greatest that are taken together: r 3, l 4. */
    static void p09TheLongestMapOfADeepWorld() {
        TimesByPowers x = Edges.sample(5, 6);
        due(x, 4, "map", 9, 3, 0, 19, 4);
        for (int what = 0; what <= 4; what++) {
            due(x, what == 0 ? 3 : 1, "told", 9, what);
        }
    }

    // ---- promise 10

    static void p10PlaceIs0To9() {
        EDGES.range(0, 0, 9, "clear", 0);
    }

    static void p10OneIfItHadAWorld() {
        TimesByPowers x = Edges.sample();
        for (int place = 0; place < 10; place++) {
            due(x, place < 4 ? 1 : 0, "clear", place);
            due(x, 0, "clear", place);
            due(x, NULL, "kind", place);
            due(x, Math.max(0, 3 - place), "count", 1);
        }
    }

    static void p10StatusStays() {
        TimesByPowers x = Edges.sample();
        due(x, PLACE, "set", 0, 24, 0);
        due(x, 1, "clear", 0);
        due(x, 2, "status");
        due(x, 0, "clear", 0);
        due(x, 2, "status");
        due(x, BAD, "clear", 10);
        due(x, 2, "status");
    }

    static void p10APlaceMayBeUsedAnew() {
        TimesByPowers x = Edges.sample();
        due(x, 1, "clear", 0);
        due(x, 2, "world", 0, 0, 0, 2);
        due(x, 2, "kind", 0);
        due(x, 1, "clear", 0);
    }
}
