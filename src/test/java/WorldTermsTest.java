import java.util.Arrays;

/** Sections 2 and 3 of the terms: each sentence by ordinary inputs. */
public final class WorldTermsTest {
    private static final int NONE = Edges.NONE;
    private static final Check CHECK = new Check();

    public static void main(String[] args) throws IllegalAccessException {
        Sentences.run(WorldTermsTest.class, CHECK);
        CHECK.end("WorldTermsTest");
    }

    // ---- how polynomials act

    static void aPlusBActsAsBoth() {
        Samples.inEachField(s -> s.inEachWorld(t -> {
            TimesByPowers x = s.with(t);
            for (int k = 0; k < 8; k++) {
                int a = s.polynomial(s.below(7));
                int b = s.polynomial(s.below(7));
                int both = s.sums.plus(a, b);
                String name = s.of(t) + a + " + " + b;
                int z = s.element();
                CHECK.due(name + " of " + z, x.acts(0, both, z),
                    x.field(x.acts(0, a, z), x.acts(0, b, z), 0));
                for (int i = 0; i < 6; i++) {
                    CHECK.due(name + ", number " + i, x.sum(0, both, i),
                        x.field(x.sum(0, a, i), x.sum(0, b, i), 0));
                }
            }
        }));
    }

    static void tTActsAsTBehindT() {
        Samples.inEachField(s -> s.inEachWorld(t -> {
            TimesByPowers x = s.with(t);
            int square = s.p * s.p;
            int[] want = Arrays.copyOf(s.sums.behind(t, t), 9);
            for (int i = 0; i < want.length; i++) {
                CHECK.due(s.of(t) + "T T, number " + i, x.sum(0, square, i), want[i]);
            }
            for (int k = 0; k < 8; k++) {
                int z = s.element();
                CHECK.due(s.of(t) + "T T of " + z, x.acts(0, square, z),
                    x.acts(0, s.p, x.acts(0, s.p, z)));
            }
        }));
    }

    static void productsActBehindOneAnother() {
        Samples.inEachField(s -> s.inEachWorld(t -> {
            TimesByPowers x = s.with(t);
            for (int k = 0; k < 8; k++) {
                int a = s.polynomial(s.below(4));
                int b = s.polynomial(s.below(4));
                int z = s.element();
                int product = s.sums.product(a, b);
                int want = x.acts(0, a, x.acts(0, b, z));
                CHECK.due(s.of(t) + a + " times " + b, x.acts(0, product, z), want);
                CHECK.due(s.of(t) + b + " behind " + a, x.acts(0, b, x.acts(0, a, z)), want);
            }
        }));
    }

    static void aNumberActsAsItself() {
        Samples.inEachField(s -> s.inEachWorld(t -> {
            TimesByPowers x = s.with(t);
            for (int number = 0; number < s.p; number++) {
                int z = s.element();
                CHECK.due(s.of(t) + number + " of " + z, x.acts(0, number, z), x.field(number, z, 1));
                CHECK.due(s.of(t) + number + " as a sum", x.sum(0, number, 0), number);
                CHECK.due(s.of(t) + number + " has no Y", x.sum(0, number, 1), 0);
            }
        }));
    }

    /** acts() and sum() are two roads: what the sum's numbers make of z is what is answered. */
    static void actsAsItsSumTells() {
        Samples.inEachField(s -> s.inEachWorld(t -> {
            for (int degree = 0; degree <= 6; degree++) {
                TimesByPowers x = s.with(t);
                int a = s.polynomial(degree);
                int[] sum = new int[19];
                for (int k = 0; k < sum.length; k++) {
                    sum[k] = x.sum(0, a, k);
                }
                for (int k = 0; k < 5; k++) {
                    int z = s.element();
                    CHECK.due(s.of(t) + "acts(0, " + a + ", " + z + ")", x.acts(0, a, z),
                        s.sums.value(sum, z));
                }
            }
        }));
    }

    // ---- what is told of a world

    static void numbersAreToldAsTheyWerePut() {
        Samples.inEachField(s -> s.inEachWorld(t -> {
            TimesByPowers x = s.with(t);
            CHECK.due(s.of(t) + "r", x.told(0, 0), t.length - 1);
            for (int k = 0; k <= 3; k++) {
                int want = k < t.length ? t[k] : 0;
                CHECK.due(s.of(t) + "t(" + k + ")", x.told(0, k + 1), want);
            }
        }));
    }

    static void ownIs0AtT0AndNoLesserOneIs() {
        Samples.inEachField(s -> s.inEachWorld(t -> {
            int own = s.with(t).told(0, 5);
            CHECK.due(s.of(t) + "OWN at t(0)", valueAt(s, own, t[0]), 0);
            CHECK.holds(s.of(t) + "OWN is monic", s.sums.monic(own));
            int lesser = Edges.power(s.p, s.sums.degree(own));
            for (int a = 1; a < lesser; a++) {
                CHECK.holds(s.of(t) + a + " at t(0) is not 0", valueAt(s, a, t[0]) != 0);
            }
        }));
    }

    private static int valueAt(Samples s, int a, int e) {
        int made = 0;
        for (int k = 0; k <= s.sums.degree(a); k++) {
            int term = s.sums.times(s.sums.figure(a, k), s.sums.power(e, k));
            made = s.sums.plus(made, term);
        }
        return made;
    }

    static void heightTellsWhereOwnBegins() {
        Samples.inEachField(s -> s.inEachWorld(t -> {
            TimesByPowers x = s.with(t);
            int own = x.told(0, 5);
            int first = x.told(0, 6) * s.sums.degree(own);
            for (int k = 0; k < first; k++) {
                CHECK.due(s.of(t) + "OWN, number " + k, x.sum(0, own, k), 0);
            }
            CHECK.holds(s.of(t) + "OWN's number " + first + " is not 0", x.sum(0, own, first) != 0);
        }));
    }

    static void kindsAreToldByRAndHeight() {
        int[] seen = new int[5];
        Samples.inEachField(s -> s.inEachWorld(t -> {
            TimesByPowers x = s.with(t);
            int r = t.length - 1;
            int want = r == 1 ? 1 : r == 3 ? 4 : x.told(0, 6) == 2 ? 3 : 2;
            CHECK.due(s.of(t) + "kind(0)", x.kind(0), want);
            seen[want]++;
        }));
        for (int kind = 1; kind <= 4; kind++) {
            CHECK.holds("KIND " + kind + " is among the samples", seen[kind] > 0);
        }
    }

    /** is() and as() go by the KIND that is told; a STEEP one is a PAIR, too. */
    static void itIsTakenAsWhatItIs() {
        Samples.inEachField(s -> s.inEachWorld(t -> {
            TimesByPowers x = s.with(t);
            int told = x.kind(0);
            for (int kind = 0; kind <= 4; kind++) {
                boolean is = kind == 0 || kind == told || kind == 2 && told == 3;
                CHECK.due(s.of(t) + "is(0, " + kind + ")", x.is(0, kind), is ? 1 : 0);
                int r = t.length - 1;
                CHECK.due(s.of(t) + "as(0, " + kind + ")", x.as(0, kind), is ? r : Edges.KIND);
            }
        }));
    }

    static void orderIsTheLeastThatTakesZTo0() {
        Samples.inEachField(s -> s.inEachWorld(t -> {
            for (int k = 0; k < 3; k++) {
                int z = s.element();
                TimesByPowers x = s.with(t);
                int order = x.order(0, z);
                CHECK.due(s.of(t) + "ORDER takes " + z, x.acts(0, order, z), 0);
                CHECK.holds(s.of(t) + "ORDER is monic", s.sums.monic(order));
                for (int a : lesser(s, order)) {
                    CHECK.holds(s.of(t) + a + " leaves " + z, x.acts(0, a, z) != 0);
                }
            }
        }));
    }

    /** Monic polynomials of lesser degree, 300 of them at most, the greatest first. */
    private static int[] lesser(Samples s, int polynomial) {
        int end = Edges.power(s.p, s.sums.degree(polynomial));
        int[] made = new int[300];
        int many = 0;
        for (int a = end - 1; a > 0 && many < made.length; a--) {
            if (s.sums.monic(a)) {
                made[many] = a;
                many++;
            }
        }
        return Arrays.copyOf(made, many);
    }

    /** n 1: T less a. n 2: T T less (a + d) T and a d - b c. n 3: likewise, by its minors. */
    static void wholeIsTheDeterminant() {
        Samples.inEachField(s -> s.inEachWorld(t -> {
            TimesByPowers x = s.with(t);
            int[][] image = new int[s.n][s.n];
            for (int i = 0; i < s.n; i++) {
                int made = x.acts(0, s.p, Edges.power(s.p, i));
                for (int j = 0; j < s.n; j++) {
                    image[i][j] = s.sums.figure(made, j);
                }
            }
            if (s.n <= 3) {
                CHECK.due(s.of(t) + "WHOLE", x.told(0, 7), whole(s, image));
            } else {
                CHECK.due(s.of(t) + "WHOLE takes all to 0", x.kernel(0, x.told(0, 7), NONE), s.q);
            }
        }));
    }

    private static int whole(Samples s, int[][] a) {
        int trace = 0;
        int minors = 0;
        for (int i = 0; i < s.n; i++) {
            trace += a[i][i];
            for (int j = 0; j < i; j++) {
                minors += a[i][i] * a[j][j] - a[i][j] * a[j][i];
            }
        }
        int[] low = s.n == 1 ? new int[] {-trace} : s.n == 2 ? new int[] {minors, -trace}
            : new int[] {-determinantOf3(a), minors, -trace};
        int code = Edges.power(s.p, s.n);
        for (int k = 0; k < s.n; k++) {
            code += Math.floorMod(low[k], s.p) * Edges.power(s.p, k);
        }
        return code;
    }

    private static int determinantOf3(int[][] a) {
        int made = 0;
        for (int j = 0; j < 3; j++) {
            int right = (j + 1) % 3;
            int left = (j + 2) % 3;
            made += a[0][j] * (a[1][right] * a[2][left] - a[1][left] * a[2][right]);
        }
        return made;
    }

    static void leastTakesAllTo0AndNoLesserOneDoes() {
        Samples.inEachField(s -> s.inEachWorld(t -> {
            TimesByPowers x = s.with(t);
            int least = x.told(0, 8);
            CHECK.due(s.of(t) + "KERNEL of LEAST", x.kernel(0, least, NONE), s.q);
            CHECK.holds(s.of(t) + "LEAST is monic", s.sums.monic(least));
            for (int a : lesser(s, least)) {
                CHECK.holds(s.of(t) + a + " leaves some", x.kernel(0, a, NONE) < s.q);
            }
        }));
    }

    static void kernelHasWhatIsTakenTo0() {
        Samples.inEachField(s -> s.inEachWorld(t -> {
            TimesByPowers x = s.with(t);
            int a = s.below(2) == 0 ? s.polynomial(s.below(7)) : x.order(0, s.element());
            int many = 0;
            for (int z = 0; z < s.q; z++) {
                if (x.acts(0, a, z) == 0) {
                    CHECK.due(s.of(t) + "kernel(0, " + a + ", " + many + ")", x.kernel(0, a, many), z);
                    many++;
                }
            }
            CHECK.due(s.of(t) + "one more", x.kernel(0, a, many), NONE);
            CHECK.due(s.of(t) + "how many", x.kernel(0, a, NONE), many);
        }));
    }

    // ---- maps

    /** All t' are tried; in small fields, so that many maps lead somewhere, and many nowhere. */
    static void aMapLeadsToOneWorldAtMost() {
        int[] seen = new int[2];
        Samples.inEachField(s -> {
            for (int k = 0; k < 60 && s.q < 10; k++) {
                int r = 1 + k % 3;
                int[] t = s.sum(r);
                int[] u = s.map(1 + s.below(4));
                int[] due = ledTo(s, t, u);
                seen[due == null ? 0 : 1]++;
                TimesByPowers x = s.with(t);
                Edges.numbers(x, 1, u);
                String name = s.of(t) + "map by " + Arrays.toString(u);
                int got = x.map(1, 0, 1, 0, u.length - 1);
                CHECK.due(name + " leads to none", got == NONE ? 1 : 0, due == null ? 1 : 0);
                for (int i = 0; due != null && i <= r; i++) {
                    CHECK.due(name + ", number " + i, x.told(1, i + 1), due[i]);
                }
            }
        });
        CHECK.holds("some lead to none, and some to one", seen[0] > 20 && seen[1] > 20);
    }

    /** The t' with u behind t being t' behind u; null: none. */
    private static int[] ledTo(Samples s, int[] t, int[] u) {
        int[] want = s.sums.behind(u, t);
        int[] found = null;
        int many = Edges.power(s.q, t.length);
        for (int k = 0; k < many; k++) {
            int[] other = new int[t.length];
            int rest = k;
            for (int i = 0; i < t.length; i++) {
                other[i] = rest % s.q;
                rest /= s.q;
            }
            if (Model.same(s.sums.behind(other, u), want)) {
                CHECK.holds(s.of(t) + "one at most for " + Arrays.toString(u), found == null);
                found = other;
            }
        }
        return found;
    }

    /** Polynomials change places with T, so that the sum of one is a MAP to the same WORLD. */
    static void theSumOfAPolynomialLeadsAWorldToItself() {
        int[] led = {0};
        Samples.inEachField(s -> s.inEachWorld(t -> {
            TimesByPowers x = s.with(t);
            int a = s.p + s.below(s.p * s.p - s.p);
            int length = x.sum(0, a, -1);
            x.row(1, 2, length + 1);
            for (int k = 0; k <= length; k++) {
                x.set(1, k, x.sum(0, a, k));
            }
            if (length > 4 || x.sum(0, a, 0) == 0) {
                return;
            }
            led[0]++;
            CHECK.due(s.of(t) + "led by " + a, x.map(1, 0, 1, 0, length), x.kind(0));
            for (int what = 0; what < 9; what++) {
                CHECK.due(s.of(t) + "told(1, " + what + ")", x.told(1, what), x.told(0, what));
            }
        }));
        CHECK.holds("some are led", led[0] > 20);
    }

    /** Every monic polynomial up to degree 4 is tried. */
    static void backIsTheLeastThatIsSomeVBehindU() {
        int[] seen = new int[2];
        Samples.inEachField(s -> {
            for (int k = 0; k < 30 && s.q < 100; k++) {
                int[] t = s.sum(1 + k % 3);
                int[] u = s.map(1 + s.below(4));
                int due = NONE;
                int[] v = null;
                for (int a = 1; a < Edges.power(s.p, 5) && v == null; a++) {
                    v = s.sums.monic(a) ? s.sums.quotient(s.sums.sumOf(t, a), u) : null;
                    due = v == null ? NONE : a;
                }
                seen[v == null ? 0 : 1]++;
                backIs(s, t, u, due, v);
            }
        });
        CHECK.holds("some have none, and some have one", seen[0] > 20 && seen[1] > 20);
    }

    private static void backIs(Samples s, int[] t, int[] u, int polynomial, int[] v) {
        TimesByPowers x = s.with(t);
        Edges.numbers(x, 1, u);
        int l = u.length - 1;
        String name = s.of(t) + "back by " + Arrays.toString(u);
        CHECK.due(name + ", the POLYNOMIAL", x.back(0, 1, 0, l, -2), polynomial);
        CHECK.due(name + ", LENGTH of v", x.back(0, 1, 0, l, -1), v == null ? NONE : v.length - 1);
        for (int k = 0; k < 13; k++) {
            int want = v == null ? NONE : k < v.length ? v[k] : 0;
            CHECK.due(name + ", v(" + k + ")", x.back(0, 1, 0, l, k), want);
        }
    }

    // ---- turns

    static void turnedNumbersAreTimesPowersOfC() {
        Samples.inEachField(s -> s.inEachWorld(t -> {
            for (int k = 0; k < 4; k++) {
                int c = s.elementNot0();
                TimesByPowers x = s.with(t);
                CHECK.due(s.of(t) + "turn(1, 0, " + c + ")", x.turn(1, 0, c), x.kind(0));
                CHECK.due(s.of(t) + "r turned by " + c, x.told(1, 0), t.length - 1);
                for (int i = 0; i < t.length; i++) {
                    int power = x.field(c, Edges.power(s.p, i) - 1, 2);
                    CHECK.due(s.of(t) + "number " + i + " turned by " + c, x.told(1, i + 1),
                        x.field(t[i], power, 1));
                }
            }
        }));
    }

    /** The other one is turned, or has one number changed, or both. */
    static void alikeIfTurnedBySomeC() {
        int[] seen = new int[2];
        Samples.inEachField(s -> s.inEachWorld(t -> {
            for (int k = 0; k < 6; k++) {
                int[] other = k < 3 ? s.sums.turned(t, s.elementNot0()) : t.clone();
                int at = s.below(t.length);
                other[at] = k % 3 == 0 ? other[at] : s.elementNot0();
                int want = s.sums.turns(t, other) > 0 ? 1 : 0;
                seen[want]++;
                TimesByPowers x = s.with(t);
                Edges.put(x, 1, other);
                String name = s.of(t) + "alike to " + Arrays.toString(other);
                CHECK.due(name, x.alike(0, 1), want);
                CHECK.due(name + ", the other way", x.alike(1, 0), want);
            }
        }));
        CHECK.holds("some are ALIKE, and some are not", seen[0] > 20 && seen[1] > 20);
    }

    static void staysCountsTheTurnsToItself() {
        Samples.inEachField(s -> s.inEachWorld(t ->
            CHECK.due(s.of(t) + "stays(0)", s.with(t).stays(0), s.sums.turns(t, t))));
    }

    static void markOfAPairIsAPowerByT2() {
        Samples.inEachField(s -> {
            for (int k = 0; k < 8; k++) {
                int[] t = s.sum(2);
                TimesByPowers x = s.with(t);
                int want = x.field(x.field(t[1], s.p + 1, 2), t[2], 3);
                CHECK.due(s.of(t) + "MARK", x.told(0, 9), want);
                x.turn(1, 0, s.elementNot0());
                CHECK.due(s.of(t) + "MARK, turned", x.told(1, 9), want);
            }
        });
    }

    // ---- asks

    private static void asked(Samples s, int[] t, int what, int want, int... bodies) {
        TimesByPowers x = s.with(t);
        String name = s.of(t) + "ask(0, " + what + ")";
        CHECK.due(name, x.ask(0, what), want);
        for (int i = 0; i <= bodies.length; i++) {
            CHECK.due(name + ", trace(" + i + ")", x.trace(i), i < bodies.length ? bodies[i] : NONE);
        }
    }

    private interface OfKind {
        void test(Samples s, int[] t);
    }

    private static void inWorldsOfKind(int kind, OfKind test) {
        int[] seen = {0};
        Samples.inEachField(s -> {
            for (int k = 0; k < 40; k++) {
                int[] t = s.sum(kind == 1 ? 1 : kind == 4 ? 3 : 2);
                if (s.with(t).kind(0) == kind) {
                    seen[0]++;
                    test.test(s, t);
                }
            }
        });
        CHECK.holds("KIND " + kind + " is among the samples", seen[0] > 10);
    }

    static void body10IsLentToAllWorldsAndTellsR() {
        inWorldsOfKind(1, (s, t) -> asked(s, t, 0, 1, 10));
    }

    static void body11OfPairsIsThatAnd10() {
        inWorldsOfKind(2, (s, t) -> asked(s, t, 0, 2 + 10, 11, 10));
    }

    static void body12OfSteepOnesIsThatTwice() {
        inWorldsOfKind(3, (s, t) -> asked(s, t, 0, 2 * (2 + 10), 12, 11, 10));
    }

    /** SIGN within it is asked anew: the one that is lent, so that 20 is in THE TRACE. */
    static void body13OfDeepOnesIsThatAndSign() {
        inWorldsOfKind(4, (s, t) -> asked(s, t, 0, 3 + t[0], 13, 10, 20));
    }

    static void body20IsLentToAllWorldsAndTellsT0() {
        inWorldsOfKind(4, (s, t) -> asked(s, t, 1, t[0], 20));
    }

    static void body21OfPairsIsThatAndMark() {
        inWorldsOfKind(2, (s, t) -> asked(s, t, 1, t[0] + s.with(t).told(0, 9), 21, 20));
    }

    static void body22OfSteepOnesIsThatAndD() {
        inWorldsOfKind(3, (s, t) -> {
            int d = s.sums.degree(s.with(t).told(0, 5));
            asked(s, t, 1, t[0] + s.with(t).told(0, 9) + d, 22, 21, 20);
        });
    }

    /** SIZE within it is asked anew: the one that is lent, so that 10 is in THE TRACE. */
    static void body23OfLinesIsThatAndSize() {
        inWorldsOfKind(1, (s, t) -> asked(s, t, 1, t[0] + 1, 23, 20, 10));
    }
}
