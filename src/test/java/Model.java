import java.util.ArrayList;
import java.util.Arrays;
import java.util.List;

/**
 * The document once more, told by trying everything: slow, and on other roads than the
 * program's (logarithms for products, all ELEMENTS for kernels and turns, all POLYNOMIALS in
 * turn for those of least degree, a determinant by its minors), so that one fault does not
 * hide in both.
 */
final class Model {
    static final int NONE = -1000000;
    static final int BAD = -1000001;

    final int p;
    final int n;
    final int q;
    final int m;
    private final int[] exp;
    private final int[] log;
    private final int[][] rows = new int[8][];
    private final int[] lanes = new int[8];
    private final int[][] shelf = new int[10][];
    private final int[][] images = new int[10][];
    private final int[] kinds = new int[10];
    private final List<Integer> trace = new ArrayList<>();
    private int status = 0;

    Model(int givenP, int givenN) {
        p = givenP == 3 || givenP == 5 ? givenP : 2;
        n = givenN < 1 ? 1 : givenN > 6 ? 6 : givenN;
        q = pow(p, n);
        m = searchModulus();
        exp = new int[q];
        log = new int[q];
        fillLogarithms();
    }

    static int pow(int base, int exponent) {
        int made = 1;
        for (int i = 0; i < exponent; i++) {
            made *= base;
        }
        return made;
    }

    // ---- polynomials over the numbers modulo p, by CODES

    int figure(int code, int i) {
        for (int k = 0; k < i; k++) {
            code /= p;
        }
        return code % p;
    }

    int plus(int a, int b) {
        int made = 0;
        int unit = 1;
        while (a != 0 || b != 0) {
            made += (a % p + b % p) % p * unit;
            a /= p;
            b /= p;
            unit *= p;
        }
        return made;
    }

    int number(int c, int a) {
        int made = 0;
        for (int k = 0; k < c; k++) {
            made = plus(made, a);
        }
        return made;
    }

    int product(int a, int b) {
        int made = 0;
        for (; b != 0; b /= p) {
            made = plus(made, number(b % p, a));
            a *= p;
        }
        return made;
    }

    int degree(int a) {
        int degree = -1;
        for (; a != 0; a /= p) {
            degree++;
        }
        return degree;
    }

    int modulo(int a, int by) {
        while (degree(a) >= degree(by)) {
            a = plus(a, by * pow(p, degree(a) - degree(by)));
        }
        return a;
    }

    private int searchModulus() {
        for (int code = q; ; code++) {
            boolean prime = true;
            for (int by = p; by < q && prime; by++) {
                prime = modulo(code, by) != 0;
            }
            if (prime) {
                return code;
            }
        }
    }

    // ---- the field

    private void fillLogarithms() {
        for (int base = 1; base < q; base++) {
            Arrays.fill(log, -1);
            int value = 1;
            int k = 0;
            while (log[value] < 0) {
                log[value] = k;
                exp[k] = value;
                value = modulo(product(value, base), m);
                k++;
            }
            if (k == q - 1) {
                return;
            }
        }
    }

    int times(int a, int b) {
        return a == 0 || b == 0 ? 0 : exp[(log[a] + log[b]) % (q - 1)];
    }

    int power(int a, long k) {
        return k == 0 ? 1 : a == 0 ? 0 : exp[(int) (log[a] * k % (q - 1))];
    }

    int by(int a, int b) {
        return a == 0 ? 0 : exp[(log[a] + q - 1 - log[b]) % (q - 1)];
    }

    int minus(int a, int b) {
        return plus(a, number(p - 1, b));
    }

    int raised(int a, int k) {
        return power(a, pow(p, k % n));
    }

    // ---- sums of powers

    int[] behind(int[] last, int[] first) {
        int[] made = new int[last.length + first.length];
        for (int i = 0; i < last.length; i++) {
            for (int j = 0; j < first.length; j++) {
                made[i + j] = plus(made[i + j], times(last[i], raised(first[j], i)));
            }
        }
        return made;
    }

    static int length(int[] s) {
        int length = s.length - 1;
        while (length >= 0 && s[length] == 0) {
            length--;
        }
        return length;
    }

    static boolean same(int[] s, int[] t) {
        return length(s) == length(t)
            && Arrays.equals(Arrays.copyOf(s, length(s) + 1), Arrays.copyOf(t, length(t) + 1));
    }

    int value(int[] s, int z) {
        int made = 0;
        for (int k = 0; k < s.length; k++) {
            made = plus(made, times(s[k], raised(z, k)));
        }
        return made;
    }

    int[] sumOf(int[] t, int a) {
        int[] made = {0};
        for (int k = degree(a); k >= 0; k--) {
            made = behind(made, t);
            made[0] = plus(made[0], figure(a, k));
            made = Arrays.copyOf(made, Math.max(1, length(made) + 1));
        }
        return made;
    }

    /** v with v behind u being s, or null; from the low end, where u(0) is not 0. */
    int[] quotient(int[] s, int[] u) {
        int size = length(s) - length(u) + 1;
        if (size < 1) {
            return null;
        }
        int[] v = new int[size];
        for (int k = 0; k < size; k++) {
            int rest = s[k];
            for (int i = 0; i < k; i++) {
                int other = k - i < u.length ? u[k - i] : 0;
                rest = minus(rest, times(v[i], raised(other, i)));
            }
            v[k] = by(rest, raised(u[0], k));
        }
        return same(behind(v, u), s) ? v : null;
    }

    // ---- worlds

    int own(int[] t) {
        for (int a = 1; ; a++) {
            if (!monic(a)) {
                continue;
            }
            int made = 0;
            for (int k = degree(a); k >= 0; k--) {
                made = plus(times(made, t[0]), figure(a, k));
            }
            if (made == 0) {
                return a;
            }
        }
    }

    boolean monic(int a) {
        return a > 0 && figure(a, degree(a)) == 1;
    }

    int height(int[] t) {
        int own = own(t);
        int[] s = sumOf(t, own);
        int first = 0;
        while (s[first] == 0) {
            first++;
        }
        if (first % degree(own) != 0) {
            throw new IllegalStateException("no height");
        }
        return first / degree(own);
    }

    int kindOf(int[] t) {
        return t.length == 2 ? 1 : t.length == 4 ? 4 : height(t) == 2 ? 3 : 2;
    }

    int act(int[] image, int a, int z) {
        int made = 0;
        for (int k = degree(a); k >= 0; k--) {
            made = plus(image[made], number(figure(a, k), z));
        }
        return made;
    }

    int least(int[] image, int from, int to) {
        for (int a = 1; ; a++) {
            boolean takes = monic(a);
            for (int z = from; z <= to && takes; z++) {
                takes = act(image, a, z) == 0;
            }
            if (takes) {
                return a;
            }
        }
    }

    int whole(int[] image) {
        int[][] entry = new int[n][n];
        for (int i = 0; i < n; i++) {
            for (int j = 0; j < n; j++) {
                entry[i][j] = (p - figure(image[pow(p, i)], j)) % p + (i == j ? p : 0);
            }
        }
        return determinant(entry, 0, 0);
    }

    private int determinant(int[][] entry, int line, int used) {
        if (line == n) {
            return 1;
        }
        int made = 0;
        int sign = 1;
        for (int j = 0; j < n; j++) {
            if ((used & 1 << j) == 0) {
                if (entry[line][j] != 0) {
                    int minor = determinant(entry, line + 1, used | 1 << j);
                    made = plus(made, number(sign, product(entry[line][j], minor)));
                }
                sign = p - sign;
            }
        }
        return made;
    }

    int mark(int[] t) {
        return by(power(t[1], p + 1), t[2]);
    }

    int[] turned(int[] t, int c) {
        int[] made = new int[t.length];
        for (int k = 0; k < t.length; k++) {
            made[k] = times(t[k], power(c, pow(p, k) - 1));
        }
        return made;
    }

    int turns(int[] s, int[] t) {
        int many = 0;
        for (int c = 1; c < q; c++) {
            many += Arrays.equals(turned(s, c), t) ? 1 : 0;
        }
        return many;
    }

    // ---- the calls

    private int found(int number) {
        status = number;
        return -1000010 - number;
    }

    private int fine(int answer) {
        status = 0;
        return answer;
    }

    private static boolean in(int number, int from, int to) {
        return from <= number && number <= to;
    }

    private boolean polynomial(int a) {
        return in(a, 0, pow(p, 7) - 1);
    }

    int row(int row, int lane, int size) {
        if (!in(row, 0, 7) || !in(lane, 0, 2) || size > 24) {
            return BAD;
        }
        if (size < 0) {
            return found(4);
        }
        rows[row] = new int[size];
        lanes[row] = lane;
        return fine(size);
    }

    int set(int row, int i, int v) {
        if (!in(row, 0, 7)) {
            return BAD;
        }
        if (rows[row] == null) {
            return found(1);
        }
        if (!in(i, 0, rows[row].length - 1)) {
            return found(2);
        }
        int unused = lanes[row] == 0 ? 24 : lanes[row] == 1 ? 16 : 0;
        rows[row][i] = v << unused >> unused;
        return fine(rows[row][i]);
    }

    int copy(int a, int i, int b, int j, int many) {
        if (!in(a, 0, 7) || !in(b, 0, 7)) {
            return BAD;
        }
        if (rows[a] == null || rows[b] == null) {
            return found(1);
        }
        if (lanes[a] != lanes[b]) {
            return found(5);
        }
        if (i < 0 || j < 0 || many < 0
            || (long) i + many > rows[a].length || (long) j + many > rows[b].length) {
            return found(2);
        }
        int[] ahead = rows[a].clone();
        for (int k = 0; k < many; k++) {
            rows[b][j + k] = ahead[i + k];
        }
        return fine(many);
    }

    int drop(int row) {
        if (!in(row, 0, 7)) {
            return BAD;
        }
        if (rows[row] == null) {
            return found(1);
        }
        int had = rows[row].length;
        rows[row] = null;
        return fine(had);
    }

    int field(int a, int b, int what) {
        boolean told = in(a, 0, q - 1) && in(what, 0, 3)
            && in(b, 0, what == 2 ? 100000 : q - 1);
        if (!told) {
            return BAD;
        }
        return what == 0 ? plus(a, b) : what == 1 ? times(a, b)
            : what == 2 ? power(a, b) : b == 0 ? NONE : by(a, b);
    }

    private int place(int to, int[] t) {
        shelf[to] = t;
        kinds[to] = kindOf(t);
        images[to] = new int[q];
        for (int z = 0; z < q; z++) {
            images[to][z] = value(t, z);
        }
        return fine(kinds[to]);
    }

    /** The ITEMS of a SUM OF POWERS, or null; then refused tells why. */
    private int[] items(int row, int i, int last, boolean firstToo) {
        if (rows[row] == null) {
            refused = found(1);
            return null;
        }
        if (i < 0 || (long) i + last >= rows[row].length) {
            refused = found(2);
            return null;
        }
        refused = BAD;
        int[] s = Arrays.copyOfRange(rows[row], i, i + last + 1);
        for (int item : s) {
            if (!in(item, 0, q - 1)) {
                return null;
            }
        }
        return s[last] == 0 || firstToo && s[0] == 0 ? null : s;
    }

    private int refused = 0;

    int world(int to, int row, int i, int r) {
        if (!in(to, 0, 9) || !in(row, 0, 7) || !in(r, 1, 3)) {
            return BAD;
        }
        int[] t = items(row, i, r, false);
        return t == null ? refused : place(to, t);
    }

    int turn(int to, int from, int c) {
        if (!in(to, 0, 9) || !in(from, 0, 9) || !in(c, 1, q - 1)) {
            return BAD;
        }
        return shelf[from] == null ? found(1) : place(to, turned(shelf[from], c));
    }

    int map(int to, int from, int row, int i, int l) {
        if (!in(to, 0, 9) || !in(from, 0, 9) || !in(row, 0, 7) || !in(l, 1, 4)) {
            return BAD;
        }
        if (shelf[from] == null) {
            return found(1);
        }
        int[] u = items(row, i, l, true);
        if (u == null) {
            return refused;
        }
        int[] t = quotient(behind(u, shelf[from]), u);
        return t == null ? fine(NONE) : place(to, t);
    }

    int clear(int place) {
        if (!in(place, 0, 9)) {
            return BAD;
        }
        boolean had = shelf[place] != null;
        shelf[place] = null;
        return had ? 1 : 0;
    }

    int told(int place, int what) {
        if (!in(place, 0, 9) || !in(what, 0, 9)) {
            return BAD;
        }
        int[] t = shelf[place];
        if (t == null) {
            return found(1);
        }
        if (what == 9 && t.length != 3) {
            return found(3);
        }
        return fine(switch (what) {
            case 0 -> t.length - 1;
            case 5 -> own(t);
            case 6 -> height(t);
            case 7 -> whole(images[place]);
            case 8 -> least(images[place], 0, q - 1);
            case 9 -> mark(t);
            default -> what - 1 < t.length ? t[what - 1] : 0;
        });
    }

    int acts(int place, int a, int z) {
        if (!in(place, 0, 9) || !polynomial(a) || !in(z, 0, q - 1)) {
            return BAD;
        }
        return shelf[place] == null ? found(1) : fine(value(sumOf(shelf[place], a), z));
    }

    int sum(int place, int a, int k) {
        if (!in(place, 0, 9) || !polynomial(a) || k < -1) {
            return BAD;
        }
        if (shelf[place] == null) {
            return found(1);
        }
        int[] s = sumOf(shelf[place], a);
        return fine(k == -1 ? length(s) : k < s.length ? s[k] : 0);
    }

    int order(int place, int z) {
        if (!in(place, 0, 9) || !in(z, 0, q - 1)) {
            return BAD;
        }
        return shelf[place] == null ? found(1) : fine(least(images[place], z, z));
    }

    int kernel(int place, int a, int i) {
        if (!in(place, 0, 9) || !polynomial(a)) {
            return BAD;
        }
        if (shelf[place] == null) {
            return found(1);
        }
        int many = 0;
        for (int z = 0; z < q; z++) {
            if (act(images[place], a, z) == 0) {
                if (many == i) {
                    return fine(z);
                }
                many++;
            }
        }
        return fine(i == NONE ? many : NONE);
    }

    int back(int place, int row, int i, int l, int k) {
        if (!in(place, 0, 9) || !in(row, 0, 7) || !in(l, 1, 4) || k < -2) {
            return BAD;
        }
        if (shelf[place] == null) {
            return found(1);
        }
        int[] u = items(row, i, l, true);
        if (u == null) {
            return refused;
        }
        for (int a = 1; degree(a) <= 4; a++) {
            int[] v = monic(a) ? quotient(sumOf(shelf[place], a), u) : null;
            if (v != null) {
                return fine(k == -2 ? a : k == -1 ? length(v) : k < v.length ? v[k] : 0);
            }
        }
        return fine(NONE);
    }

    int alike(int a, int b) {
        if (!in(a, 0, 9) || !in(b, 0, 9)) {
            return BAD;
        }
        if (shelf[a] == null || shelf[b] == null) {
            return found(1);
        }
        return fine(turns(shelf[a], shelf[b]) > 0 || turns(shelf[b], shelf[a]) > 0 ? 1 : 0);
    }

    int stays(int place) {
        if (!in(place, 0, 9)) {
            return BAD;
        }
        return shelf[place] == null ? found(1) : fine(turns(shelf[place], shelf[place]));
    }

    int kind(int place) {
        if (!in(place, 0, 9)) {
            return BAD;
        }
        return shelf[place] == null ? found(1) : fine(kinds[place]);
    }

    private boolean of(int place, int kind) {
        return shelf[place] != null
            && (kind == 0 || kinds[place] == kind || kinds[place] == 3 && kind == 2);
    }

    int is(int place, int kind) {
        if (!in(place, 0, 9) || !in(kind, 0, 4)) {
            return BAD;
        }
        return of(place, kind) ? 1 : 0;
    }

    int as(int place, int kind) {
        if (!in(place, 0, 9) || !in(kind, 0, 4)) {
            return BAD;
        }
        if (shelf[place] == null) {
            return found(1);
        }
        return of(place, kind) ? fine(shelf[place].length - 1) : found(3);
    }

    int ask(int place, int what) {
        if (!in(place, 0, 9) || !in(what, 0, 1)) {
            return BAD;
        }
        trace.clear();
        if (shelf[place] == null) {
            return found(1);
        }
        int[] t = shelf[place];
        int size = t.length - 1;
        if (what == 0) {
            return fine(switch (kinds[place]) {
                case 1 -> leave(size, 10);
                case 2 -> leave(size + 10, 11, 10);
                case 3 -> leave(2 * (size + 10), 12, 11, 10);
                default -> leave(size + t[0], 13, 10, 20);
            });
        }
        return fine(switch (kinds[place]) {
            case 1 -> leave(t[0] + size, 23, 20, 10);
            case 2 -> leave(t[0] + mark(t), 21, 20);
            case 3 -> leave(t[0] + mark(t) + degree(own(t)), 22, 21, 20);
            default -> leave(t[0], 20);
        });
    }

    private int leave(int answer, int... bodies) {
        for (int body : bodies) {
            trace.add(body);
        }
        return answer;
    }

    int trace(int i) {
        return in(i, 0, trace.size() - 1) ? trace.get(i) : NONE;
    }

    int count(int what) {
        if (what == 6 || what == 7) {
            return what == 6 ? q : m;
        }
        if (!in(what, 0, 7)) {
            return BAD;
        }
        int many = 0;
        for (int i = 0; i < 10; i++) {
            if (what == 0) {
                many += i < 8 && rows[i] != null ? 1 : 0;
            } else {
                many += of(i, what - 1) ? 1 : 0;
            }
        }
        return many;
    }

    int status() {
        return status;
    }
}
