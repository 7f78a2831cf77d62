import java.util.Arrays;
import java.util.Random;
import java.util.function.Consumer;

/** Ordinary worlds, elements and polynomials of one field, picked by a seeded source. */
final class Samples {
    private static final int[][] FIELDS = {{2, 1}, {2, 2}, {2, 3}, {2, 6}, {3, 1}, {3, 2}, {3, 4},
        {5, 1}, {5, 2}, {5, 3}};
    private static final int WORLDS = 9;

    final int p;
    final int n;
    final int q;
    /** The field's arithmetic for what is due, since an object is good for 512 calls only. */
    final Model sums;
    private final Random random;

    private Samples(int p, int n) {
        this.p = p;
        this.n = n;
        q = Edges.power(p, n);
        sums = new Model(p, n);
        random = new Random(100L * p + n);
    }

    static void inEachField(Consumer<Samples> test) {
        for (int[] field : FIELDS) {
            test.accept(new Samples(field[0], field[1]));
        }
    }

    /** Three worlds of each r. */
    void inEachWorld(Consumer<int[]> test) {
        for (int k = 0; k < WORLDS; k++) {
            test.accept(sum(1 + k % 3));
        }
    }

    int below(int bound) {
        return random.nextInt(bound);
    }

    /** 0 more often than by chance alone, and numbers modulo p, so that small OWNS come up. */
    int element() {
        int what = below(6);
        return what == 0 ? 0 : what == 1 ? below(p) : below(q);
    }

    int elementNot0() {
        return 1 + below(q - 1);
    }

    /** A SUM OF POWERS of this LENGTH. */
    int[] sum(int length) {
        int[] s = new int[length + 1];
        for (int k = 0; k < length; k++) {
            s[k] = element();
        }
        s[length] = elementNot0();
        return s;
    }

    /** A MAP of this LENGTH. */
    int[] map(int length) {
        int[] u = sum(length);
        u[0] = elementNot0();
        return u;
    }

    /** The CODE of a POLYNOMIAL of this degree. */
    int polynomial(int degree) {
        int unit = Edges.power(p, degree);
        return unit + below((p - 1) * unit);
    }

    /** A new object with the world at place 0; it has used up 10 calls at most. */
    TimesByPowers with(int... t) {
        TimesByPowers x = new TimesByPowers(p, n);
        Edges.put(x, 0, t);
        return x;
    }

    String of(int... t) {
        return "new(" + p + ", " + n + ") with " + Arrays.toString(t) + ": ";
    }
}
