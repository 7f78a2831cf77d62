import java.util.HashSet;
import java.util.Set;

/** "What it is" and section 1 of the terms: each sentence by ordinary inputs. */
public final class FieldTermsTest {
    private static final Check CHECK = new Check();
    private static final int MOST_CALLS = 512;
    /** 4 rows, 50 items, 3 worlds of these, and 6 calls for another world. */
    private static final int SAMPLE_CALLS = 63;

    public static void main(String[] args) throws IllegalAccessException {
        Sentences.run(FieldTermsTest.class, CHECK);
        CHECK.end("FieldTermsTest");
    }

    // ---- what it is

    /** After 511 calls of all kinds the last one still answers as a new object does. */
    static void anObjectIsUsedFor512Calls() {
        for (int what = 0; what < 10; what++) {
            TimesByPowers x = Edges.sample(5, 6);
            for (int made = SAMPLE_CALLS; made < MOST_CALLS - 1; made++) {
                useUp(x, made);
            }
            int want = Edges.sample(5, 6).told(3, what);
            CHECK.due("told(3, " + what + ") as call " + MOST_CALLS, x.told(3, what), want);
        }
    }

    /** What later calls answer is free, but they answer: no call may throw. */
    static void laterCallsAnswerToo() {
        TimesByPowers x = Edges.sample();
        for (int k = 0; k < 10 * MOST_CALLS; k++) {
            useUp(x, k);
        }
        CHECK.holds("status() answers", x.status() >= Integer.MIN_VALUE);
    }

    /** A call that leaves place 3 as it was. */
    private static void useUp(TimesByPowers x, int k) {
        int place = 4 + k % 6;
        switch (k % 13) {
            case 0 -> x.row(5, k % 3, k % 25);
            case 1 -> x.set(5, k % 24, k);
            case 2 -> x.copy(1, 0, 1, 1, 20);
            case 3 -> x.world(place, 1, 0, 1 + k % 3);
            case 4 -> x.turn(place, 3, 1 + k % 26);
            case 5 -> x.map(place, 3, 1, 0, 1 + k % 4);
            case 6 -> x.kernel(place, k, k % 3);
            case 7 -> x.back(place, 1, 0, 1 + k % 4, k % 5 - 2);
            case 8 -> x.sum(place, k, k % 19);
            case 9 -> x.alike(3, place);
            case 10 -> x.ask(place, k % 2);
            case 11 -> x.clear(place);
            default -> x.acts(3, k, k % 27);
        }
    }

    /** Nothing of one object is seen by another. */
    static void objectsStandForThemselves() {
        TimesByPowers x = Edges.sample(3, 3);
        TimesByPowers y = new TimesByPowers(2, 2);
        CHECK.due("ROWS of y", y.count(0), 0);
        CHECK.due("WORLDS of y", y.count(1), 0);
        Edges.put(y, 3, 2, 1);
        CHECK.due("ask of y", y.ask(3, 1), 3);
        CHECK.due("WORLDS of x", x.count(1), 4);
        CHECK.due("kind of x", x.kind(3), 4);
        CHECK.due("THE TRACE of x", x.trace(0), Edges.NONE);
        CHECK.due("WHOLE of x", x.told(3, 7), Edges.sample(3, 3).told(3, 7));
    }

    // ---- section 1

    /** Every monic polynomial of degree n and lesser CODE is a product of lesser ones, m is not. */
    static void mIsNoProductAndOfLeastCode() {
        for (int p : Edges.PRIMES) {
            for (int n = 1; n <= 6; n++) {
                int m = new TimesByPowers(p, n).count(7);
                Set<Integer> products = productsOfDegree(p, n);
                String name = "m of new(" + p + ", " + n + ")";
                CHECK.due(name + " is monic, of degree n", m / Edges.power(p, n), 1);
                CHECK.holds(name + " is no product", !products.contains(m));
                for (int lesser = Edges.power(p, n); lesser < m; lesser++) {
                    CHECK.holds(lesser + " ahead of " + name, products.contains(lesser));
                }
            }
        }
    }

    private static Set<Integer> productsOfDegree(int p, int n) {
        Set<Integer> products = new HashSet<>();
        for (int i = 1; 2 * i <= n; i++) {
            int one = Edges.power(p, i);
            int other = Edges.power(p, n - i);
            for (int a = one; a < 2 * one; a++) {
                for (int b = other; b < 2 * other; b++) {
                    products.add(code(times(numbers(a, p), numbers(b, p), p), p));
                }
            }
        }
        return products;
    }

    /** The numbers of a polynomial, that of x to the power 0 first. */
    private static int[] numbers(int code, int p) {
        int[] made = new int[14];
        for (int k = 0; k < made.length; k++) {
            made[k] = code % p;
            code /= p;
        }
        return made;
    }

    private static int code(int[] numbers, int p) {
        int code = 0;
        for (int k = numbers.length - 1; k >= 0; k--) {
            code = code * p + numbers[k];
        }
        return code;
    }

    private static int[] plus(int[] a, int[] b, int p) {
        int[] made = new int[a.length];
        for (int k = 0; k < a.length; k++) {
            made[k] = (a[k] + b[k]) % p;
        }
        return made;
    }

    private static int[] times(int[] a, int[] b, int p) {
        int[] made = new int[a.length];
        for (int i = 0; i < a.length; i++) {
            for (int j = 0; i + j < a.length; j++) {
                made[i + j] = (made[i + j] + a[i] * b[j]) % p;
            }
        }
        return made;
    }

    /** Takes multiples of m away, from the highest number down. */
    private static int[] modulo(int[] a, int[] m, int n, int p) {
        int[] left = a.clone();
        for (int k = a.length - 1; k >= n; k--) {
            int many = left[k];
            for (int i = 0; i <= n; i++) {
                left[k - n + i] = Math.floorMod(left[k - n + i] - many * m[i], p);
            }
        }
        return left;
    }

    static void elementsAddAndMultiplyAsPolynomialsModuloM() {
        for (int p : Edges.PRIMES) {
            for (int n = 1; n <= 6; n++) {
                int q = Edges.power(p, n);
                int step = Math.max(1, q / 12);
                for (int a = q - 1; a >= 0; a -= step) {
                    addAndMultiply(p, n, a, step);
                }
            }
        }
    }

    private static void addAndMultiply(int p, int n, int a, int step) {
        TimesByPowers x = new TimesByPowers(p, n);
        int[] m = numbers(x.count(7), p);
        for (int b = x.count(6) - 1; b >= 0; b -= step) {
            String name = "new(" + p + ", " + n + "): field(" + a + ", " + b + ", ";
            int[] one = numbers(a, p);
            int[] other = numbers(b, p);
            CHECK.due(name + "0)", x.field(a, b, 0), code(plus(one, other, p), p));
            CHECK.due(name + "1)", x.field(a, b, 1), code(modulo(times(one, other, p), m, n, p), p));
        }
    }

    /** An element is the sum of its figures, each times the power of x that it stands at. */
    static void figuresStandAtPowersOfX() {
        Samples.inEachField(s -> {
            for (int k = 0; k < 5 && s.n > 1; k++) {
                TimesByPowers x = new TimesByPowers(s.p, s.n);
                int e = s.below(s.q);
                int made = 0;
                for (int i = 0; i < s.n; i++) {
                    int figure = e / Edges.power(s.p, i) % s.p;
                    made = x.field(made, x.field(figure, x.field(s.p, i, 2), 1), 0);
                }
                CHECK.due(s.of() + "the figures of " + e, made, e);
            }
        });
    }

    static void powersAreProductsAndByUndoesTimes() {
        Samples.inEachField(s -> {
            TimesByPowers x = new TimesByPowers(s.p, s.n);
            for (int k = 0; k < 8; k++) {
                int a = s.element();
                int b = s.elementNot0();
                int power = 1;
                for (int exponent = 0; exponent < 12; exponent++) {
                    CHECK.due(s.of() + a + " to the power " + exponent, x.field(a, exponent, 2), power);
                    power = x.field(power, a, 1);
                }
                CHECK.due(s.of() + a + " by " + b, x.field(x.field(a, b, 3), b, 1), a);
            }
        });
    }

    /** T acts by t(0) .. t(r): each number times z, to the power p as often as it stands. */
    static void aSumOfPowersTakesZToItsPowers() {
        Samples.inEachField(s -> s.inEachWorld(t -> {
            TimesByPowers x = s.with(t);
            for (int k = 0; k < 10; k++) {
                int z = s.element();
                int made = 0;
                for (int i = 0; i < t.length; i++) {
                    int power = x.field(z, Edges.power(s.p, i), 2);
                    made = x.field(made, x.field(t[i], power, 1), 0);
                }
                CHECK.due(s.of(t) + "acts(0, " + s.p + ", " + z + ")", x.acts(0, s.p, z), made);
            }
        }));
    }

    /** (a + b Y)(a + b Y) is a a + (a b + b a') Y + b b' Y Y, if ' is to the power p. */
    static void ySIsSToThePowerPThenY() {
        Samples.inEachField(s -> {
            for (int k = 0; k < 6; k++) {
                int a = s.element();
                int b = s.elementNot0();
                TimesByPowers x = s.with(a, b);
                int[] want = {x.field(a, a, 1),
                    x.field(x.field(a, b, 1), x.field(b, x.field(a, s.p, 2), 1), 0),
                    x.field(b, x.field(b, s.p, 2), 1), 0};
                for (int i = 0; i < want.length; i++) {
                    CHECK.due(s.of(a, b) + "T T at " + i, x.sum(0, s.p * s.p, i), want[i]);
                }
            }
        });
    }

    static void lengthIsTheLastNumberThatIsNot0() {
        Samples.inEachField(s -> s.inEachWorld(t -> {
            for (int degree = 0; degree <= 6; degree++) {
                TimesByPowers x = s.with(t);
                int a = s.polynomial(degree);
                int length = -1;
                for (int k = 0; k < 24; k++) {
                    length = x.sum(0, a, k) == 0 ? length : k;
                }
                CHECK.due(s.of(t) + "sum(0, " + a + ", -1)", x.sum(0, a, -1), length);
                CHECK.due(s.of(t) + "LENGTH of degree " + degree, length, degree * (t.length - 1));
            }
        }));
    }

    /** A POLYNOMIAL acts as its figures tell: each times T, put behind itself as often. */
    static void polynomialsHaveCodesLikewise() {
        Samples.inEachField(s -> s.inEachWorld(t -> {
            TimesByPowers x = s.with(t);
            for (int degree = 0; degree <= 6; degree++) {
                int a = s.polynomial(degree);
                int z = s.element();
                int made = 0;
                int point = z;
                for (int k = 0; k <= degree; k++) {
                    int figure = a / Edges.power(s.p, k) % s.p;
                    made = x.field(made, x.field(figure, point, 1), 0);
                    point = x.acts(0, s.p, point);
                }
                CHECK.due(s.of(t) + "acts(0, " + a + ", " + z + ")", x.acts(0, a, z), made);
            }
        }));
    }
}
