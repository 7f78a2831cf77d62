/** Promise by promise: ordinary inputs, the edges that the document names, wrong inputs. */
public final class PromisesTest {
    private static final int NONE = -1000000, BAD = -1000001;
    private static final int NULL = -1000011, PLACE = -1000012, KIND = -1000013,
        SIZE = -1000014, STORE = -1000015;
    private static final int MIN = Integer.MIN_VALUE, MAX = Integer.MAX_VALUE;

    private static final Check CHECK = new Check();

    public static void main(String[] args) {
        newObject();
        row();
        set();
        copy();
        drop();
        field();
        world();
        turn();
        map();
        clear();
        told();
        acts();
        sum();
        order();
        kernel();
        back();
        alike();
        stays();
        kind();
        is();
        as();
        ask();
        trace();
        count();
        status();
        CHECK.end("PromisesTest");
    }

    private static void due(String call, int got, int want) {
        CHECK.due(call, got, want);
    }

    /** Puts numbers into row 7 of ints. */
    private static void numbers(TimesByPowers x, int... items) {
        x.row(7, 2, items.length);
        for (int k = 0; k < items.length; k++) {
            x.set(7, k, items[k]);
        }
    }

    private static int put(TimesByPowers x, int place, int... t) {
        numbers(x, t);
        return x.world(place, 7, 0, t.length - 1);
    }

    private static void newObject() {
        int[][] given = {{2, 1, 2}, {3, 1, 3}, {5, 1, 5}, {2, 6, 64}, {3, 6, 729}, {5, 6, 15625},
            {0, 2, 4}, {1, 2, 4}, {4, 2, 4}, {6, 2, 4}, {7, 2, 4}, {-3, 2, 4}, {MIN, MIN, 2},
            {MAX, MAX, 64}, {3, 0, 3}, {3, -7, 3}, {3, 7, 729}, {5, 2, 25}};
        for (int[] g : given) {
            TimesByPowers x = new TimesByPowers(g[0], g[1]);
            String name = "1: new(" + g[0] + ", " + g[1] + ") ";
            due(name + "count(6)", x.count(6), g[2]);
            due(name + "count(0)", x.count(0), 0);
            due(name + "count(1)", x.count(1), 0);
            due(name + "status()", x.status(), 0);
            due(name + "trace(0)", x.trace(0), NONE);
            due(name + "kind(9)", x.kind(9), NULL);
            due(name + "drop(7)", x.drop(7), NULL);
        }
    }

    private static void row() {
        TimesByPowers x = new TimesByPowers(2, 3);
        due("2: row(0, 0, 0)", x.row(0, 0, 0), 0);
        due("2: count(0)", x.count(0), 1);
        due("2: row(7, 2, 24)", x.row(7, 2, 24), 24);
        due("2: row(7, 2, 25)", x.row(7, 2, 25), BAD);
        due("2: row(7, 2, MAX)", x.row(7, 2, MAX), BAD);
        due("2: row(-1, 0, 1)", x.row(-1, 0, 1), BAD);
        due("2: row(8, 0, 1)", x.row(8, 0, 1), BAD);
        due("2: row(0, -1, 1)", x.row(0, -1, 1), BAD);
        due("2: row(0, 3, 1)", x.row(0, 3, 1), BAD);
        due("2: row(0, 3, -1)", x.row(0, 3, -1), BAD);
        due("2: row(0, 0, -1)", x.row(0, 0, -1), SIZE);
        due("2: row(0, 0, MIN)", x.row(0, 0, MIN), SIZE);
        due("2: drop(7)", x.drop(7), 24);
        due("2: drop(0)", x.drop(0), 0);
        // A new row is all 0, also where one stood before, and has the new lane.
        x.row(1, 2, 2);
        x.set(1, 0, 1);
        x.set(1, 1, 1);
        due("2: world ahead", x.world(0, 1, 0, 1), 1);
        due("2: row(1, 0, 2)", x.row(1, 0, 2), 2);
        due("2: world of new items", x.world(0, 1, 0, 1), BAD);
        due("2: set(1, 0, 256)", x.set(1, 0, 256), 0);
    }

    private static void set() {
        TimesByPowers x = new TimesByPowers(2, 3);
        due("3: set(0, 0, 1)", x.set(0, 0, 1), NULL);
        due("3: set(8, 0, 1)", x.set(8, 0, 1), BAD);
        due("3: set(-1, 0, 1)", x.set(-1, 0, 1), BAD);
        x.row(0, 0, 2);
        x.row(1, 1, 2);
        x.row(2, 2, 2);
        due("3: byte 127", x.set(0, 0, 127), 127);
        due("3: byte 128", x.set(0, 0, 128), -128);
        due("3: byte 255", x.set(0, 0, 255), -1);
        due("3: byte 256", x.set(0, 0, 256), 0);
        due("3: byte -129", x.set(0, 0, -129), 127);
        due("3: short 32767", x.set(1, 1, 32767), 32767);
        due("3: short 32768", x.set(1, 1, 32768), -32768);
        due("3: short 65537", x.set(1, 1, 65537), 1);
        due("3: int MAX", x.set(2, 0, MAX), MAX);
        due("3: int MIN", x.set(2, 1, MIN), MIN);
        due("3: set(0, 2, 1)", x.set(0, 2, 1), PLACE);
        due("3: set(0, -1, 1)", x.set(0, -1, 1), PLACE);
        due("3: set(0, MAX, 1)", x.set(0, MAX, 1), PLACE);
        x.row(3, 0, 0);
        due("3: set of no items", x.set(3, 0, 1), PLACE);
    }

    private static void copy() {
        TimesByPowers x = new TimesByPowers(5, 2);
        due("4: copy(0, 0, 1, 0, 0)", x.copy(0, 0, 1, 0, 0), NULL);
        due("4: copy(8, 0, 0, 0, 0)", x.copy(8, 0, 0, 0, 0), BAD);
        due("4: copy(0, 0, -1, 0, 0)", x.copy(0, 0, -1, 0, 0), BAD);
        x.row(0, 1, 5);
        due("4: to a missing row", x.copy(0, 9, 1, 0, 1), NULL);
        due("4: from a missing row", x.copy(1, 9, 0, 0, 1), NULL);
        x.row(1, 2, 3);
        due("4: two lanes ahead of the place", x.copy(0, -1, 1, 0, 1), STORE);
        x.row(1, 1, 3);
        due("4: i below 0", x.copy(0, -1, 1, 0, 1), PLACE);
        due("4: j below 0", x.copy(0, 0, 1, -1, 1), PLACE);
        due("4: n below 0", x.copy(0, 0, 1, 0, -1), PLACE);
        due("4: beyond the end of a", x.copy(0, 4, 1, 0, 2), PLACE);
        due("4: beyond the end of b", x.copy(0, 0, 1, 2, 2), PLACE);
        due("4: a sum that wraps", x.copy(0, 2, 1, 0, MAX), PLACE);
        due("4: i at its most", x.copy(0, MAX, 1, 0, 1), PLACE);
        due("4: none from the end", x.copy(0, 5, 1, 3, 0), 0);
        due("4: none from beyond the end", x.copy(0, 6, 1, 3, 0), PLACE);
        // 1 2 3 4 5 becomes 1 1 2 3 4, then 1 2 3 4 4: each as it was ahead.
        for (int k = 0; k < 5; k++) {
            x.set(0, k, k + 1);
        }
        due("4: to the right", x.copy(0, 0, 0, 1, 4), 4);
        items(x, 0, 1, 1, 2, 3, 4);
        due("4: to the left", x.copy(0, 1, 0, 0, 4), 4);
        items(x, 0, 1, 2, 3, 4, 4);
        due("4: to another row", x.copy(0, 1, 1, 0, 3), 3);
        items(x, 1, 2, 3, 4);
        items(x, 0, 1, 2, 3, 4, 4);
    }

    /** What a row has is seen by the worlds that are made of it. */
    private static void items(TimesByPowers x, int row, int... want) {
        for (int k = 0; k + 1 < want.length; k++) {
            due("4: world of row " + row + " from " + k, x.world(0, row, k, 1), 1);
            due("4: item " + k, x.told(0, 1), want[k]);
            due("4: item " + (k + 1), x.told(0, 2), want[k + 1]);
        }
    }

    private static void drop() {
        TimesByPowers x = new TimesByPowers(2, 3);
        x.row(4, 0, 9);
        due("5: drop(4)", x.drop(4), 9);
        due("5: drop(4) anew", x.drop(4), NULL);
        due("5: count(0)", x.count(0), 0);
        due("5: set of it", x.set(4, 0, 0), NULL);
        due("5: drop(8)", x.drop(8), BAD);
        due("5: drop(-1)", x.drop(-1), BAD);
    }

    private static void field() {
        int[][] moduli = {{2, 2, 7, 11, 19, 37, 67}, {3, 3, 10, 34, 86, 250, 734},
            {5, 5, 27, 131, 627, 3146, 15632}};
        for (int[] line : moduli) {
            for (int n = 1; n <= 6; n++) {
                TimesByPowers x = new TimesByPowers(line[0], n);
                due("6: count(7) of " + line[0] + ", " + n, x.count(7), line[n]);
                due("6: the same searched", new Model(line[0], n).m, line[n]);
                fieldRules(x, x.count(6));
            }
        }
        TimesByPowers x = new TimesByPowers(3, 2);
        due("6: x x, modulo x x + 1", x.field(3, 3, 1), 2);
        due("6: 8 + 5", x.field(8, 5, 0), 1);
        due("6: 0 to the power 0", x.field(0, 0, 2), 1);
        due("6: 0 to the power 7", x.field(0, 7, 2), 0);
        due("6: 4 to the power 100000", x.field(4, 100000, 2), 1);
        due("6: exponent 100001", x.field(4, 100001, 2), BAD);
        due("6: exponent -1", x.field(4, -1, 2), BAD);
        due("6: a power of no element", x.field(9, 1, 2), BAD);
        due("6: by 0", x.field(4, 0, 3), NONE);
        due("6: 0 by 4", x.field(0, 4, 3), 0);
        due("6: no element by 0", x.field(9, 0, 3), BAD);
        due("6: by no element", x.field(1, 9, 3), BAD);
        for (int what = 0; what < 4; what++) {
            due("6: a below 0", x.field(-1, 1, what), BAD);
            due("6: a too great", x.field(9, 1, what), BAD);
            due("6: b below 0", x.field(1, -1, what), BAD);
        }
        due("6: what -1", x.field(1, 1, -1), BAD);
        due("6: what 4", x.field(1, 1, 4), BAD);
    }

    private static void fieldRules(TimesByPowers x, int q) {
        int[] some = {0, 1, q - 1, q / 2, q / 3, 2 % q};
        for (int a : some) {
            due("6: a to the power q", x.field(x.field(a, q - 1, 2), a, 1), a);
            for (int b : some) {
                if (b != 0) {
                    due("6: a by b, times b", x.field(x.field(a, b, 3), b, 1), a);
                }
                due("6: a b", x.field(a, b, 1), x.field(b, a, 1));
                int left = x.field(a, x.field(b, q - 1, 0), 1);
                int right = x.field(x.field(a, b, 1), x.field(a, q - 1, 1), 0);
                due("6: a (b + c)", left, right);
            }
        }
    }

    private static void world() {
        TimesByPowers x = new TimesByPowers(2, 3);
        due("7: place -1", x.world(-1, 0, 0, 1), BAD);
        due("7: place 10", x.world(10, 0, 0, 1), BAD);
        due("7: row 8", x.world(0, 8, 0, 1), BAD);
        due("7: row -1", x.world(0, -1, 0, 1), BAD);
        due("7: r 0", x.world(0, 0, 0, 0), BAD);
        due("7: r 4", x.world(0, 0, 0, 4), BAD);
        due("7: missing row, no place", x.world(0, 0, -1, 1), NULL);
        x.row(0, 2, 5);
        due("7: i below 0", x.world(0, 0, -1, 1), PLACE);
        due("7: i beyond", x.world(0, 0, 4, 1), PLACE);
        due("7: i far beyond", x.world(0, 0, MAX, 3), PLACE);
        due("7: last number 0", x.world(0, 0, 0, 1), BAD);
        x.set(0, 4, 8);
        due("7: last number no element", x.world(0, 0, 3, 1), BAD);
        x.set(0, 4, 7);
        x.set(0, 3, -1);
        due("7: first number no element", x.world(0, 0, 3, 1), BAD);
        due("7: none was made", x.count(1), 0);
        x.set(0, 3, 0);
        due("7: a line at the end", x.world(9, 0, 3, 1), 1);
        x.set(0, 2, 1);
        x.set(0, 3, 1);
        due("7: a pair at the end", x.world(8, 0, 2, 2), 2);
        due("7: a deep one at the end", x.world(7, 0, 1, 3), 4);
        // t = Y Y: OWN is T, and acts by a sum that begins at 2.
        due("7: a steep one", put(x, 6, 0, 0, 1), 3);
        due("7: in its place", put(x, 6, 5, 1), 1);
        due("7: the new one", x.told(6, 1), 5);
        x.drop(7);
        due("7: worlds never change", x.told(6, 2), 1);
    }

    private static void turn() {
        TimesByPowers x = new TimesByPowers(3, 2);
        due("8: to -1", x.turn(-1, 0, 1), BAD);
        due("8: to 10", x.turn(10, 0, 1), BAD);
        due("8: place 10", x.turn(0, 10, 1), BAD);
        due("8: c 0", x.turn(0, 0, 0), BAD);
        due("8: c 9", x.turn(0, 0, 9), BAD);
        due("8: c -1", x.turn(0, 0, -1), BAD);
        due("8: empty", x.turn(0, 0, 1), NULL);
        put(x, 0, 5, 1, 0, 4);
        int c = 4;
        due("8: turn", x.turn(1, 0, c), 4);
        int[] exponents = {0, 2, 8, 26};
        for (int k = 0; k < 4; k++) {
            int want = x.field(x.told(0, k + 1), x.field(c, exponents[k], 2), 1);
            due("8: number " + k, x.told(1, k + 1), want);
        }
        due("8: onto itself", x.turn(0, 0, c), 4);
        due("8: the same", x.told(0, 2), x.told(1, 2));
        due("8: t(1) times c c", x.told(0, 2), x.field(c, c, 1));
    }

    private static void map() {
        TimesByPowers x = new TimesByPowers(2, 2);
        due("9: to 10", x.map(10, 0, 0, 0, 1), BAD);
        due("9: place -1", x.map(0, -1, 0, 0, 1), BAD);
        due("9: row 8", x.map(0, 0, 8, 0, 1), BAD);
        due("9: l 0", x.map(0, 0, 0, 0, 0), BAD);
        due("9: l 5", x.map(0, 0, 0, 0, 5), BAD);
        due("9: empty place", x.map(0, 0, 7, 9, 1), NULL);
        due("9: a world", put(x, 0, 1, 1, 1), 2);
        x.drop(7);
        due("9: missing row", x.map(1, 0, 7, 0, 1), NULL);
        numbers(x, 1, 1, 0, 4, 2);
        due("9: i below 0", x.map(1, 0, 7, -1, 1), PLACE);
        due("9: i beyond", x.map(1, 0, 7, 4, 1), PLACE);
        due("9: i far beyond", x.map(1, 0, 7, MAX, 4), PLACE);
        due("9: u(l) is 0", x.map(1, 0, 7, 1, 1), BAD);
        due("9: an item is no element", x.map(1, 0, 7, 0, 4), BAD);
        numbers(x, 0, 1);
        due("9: u(0) is 0", x.map(1, 0, 7, 0, 1), BAD);
        due("9: none was made", x.count(1), 1);
        // All numbers lie in the field of 2, where all sums of powers change places.
        numbers(x, 1, 1);
        due("9: 1 + Y", x.map(1, 0, 7, 0, 1), 2);
        due("9: leads to the same", x.told(1, 2), 1);
        put(x, 2, 2, 1);
        numbers(x, 2, 1);
        due("9: t behind itself", x.map(3, 2, 7, 0, 1), 1);
        due("9: t(0) of it", x.told(3, 1), 2);
        due("9: t(1) of it", x.told(3, 2), 1);
        // (1 + Y)(2 + Y) has 2 at Y, (2 + b Y)(1 + Y) with b = 1 has 3 there.
        numbers(x, 1, 1);
        due("9: leads to none", x.map(4, 2, 7, 0, 1), NONE);
        due("9: the place stays empty", x.is(4, 0), 0);
        due("9: status", x.status(), 0);
        mapKeepsItsWord(x);
    }

    /** u behind t is t' behind u: both do the same to every element. */
    private static void mapKeepsItsWord(TimesByPowers x) {
        int led = 0;
        for (int u0 = 1; u0 < 4; u0++) {
            put(x, 0, 2, 3, 1);
            numbers(x, u0, 1);
            if (x.map(1, 0, 7, 0, 1) != NONE) {
                led++;
                for (int z = 0; z < 4; z++) {
                    int left = x.acts(0, 2, z);
                    left = x.field(x.field(u0, left, 1), x.field(left, 2, 2), 0);
                    int right = x.field(x.field(u0, z, 1), x.field(z, 2, 2), 0);
                    due("9: u behind t", left, x.acts(1, 2, right));
                }
            }
        }
        CHECK.holds("9: some map leads on", led > 0);
    }

    private static void clear() {
        TimesByPowers x = new TimesByPowers(2, 2);
        due("10: clear(0)", x.clear(0), 0);
        put(x, 0, 1, 1);
        due("10: clear(0) of a world", x.clear(0), 1);
        due("10: clear(0) anew", x.clear(0), 0);
        due("10: told(0, 0)", x.told(0, 0), NULL);
        due("10: clear(-1)", x.clear(-1), BAD);
        due("10: clear(10)", x.clear(10), BAD);
        due("10: clear(9)", x.clear(9), 0);
    }

    private static void told() {
        TimesByPowers x = new TimesByPowers(2, 2);
        due("11: empty", x.told(0, 0), NULL);
        due("11: MARK of empty", x.told(0, 9), NULL);
        due("11: what 10 of empty", x.told(0, 10), BAD);
        due("11: what -1", x.told(0, -1), BAD);
        due("11: place 10", x.told(10, 0), BAD);
        // T takes 1 to 2 + 1 = 3, and 2 to 2 2 + 2 2 = 0: determinant T T + T, for T(3) = 3.
        put(x, 0, 2, 1);
        int[] line = {1, 2, 1, 0, 0, 7, 1, 6, 6, KIND};
        toldAll(x, 0, line);
        // T = Y Y does nothing in this field: WHOLE is (T + 1)(T + 1), LEAST is T + 1.
        put(x, 1, 0, 0, 1);
        int[] steep = {2, 0, 0, 1, 0, 2, 2, 5, 3, 0};
        toldAll(x, 1, steep);
        // T = Y Y Y is Y here: T(1) = 1, T(2) = 3, T(3) = 2.
        put(x, 2, 0, 0, 0, 1);
        int[] deep = {3, 0, 0, 0, 1, 2, 3, 5, 5, KIND};
        toldAll(x, 2, deep);
        put(x, 3, 1, 2, 3);
        due("11: MARK", x.told(3, 9), x.field(x.field(2, 3, 2), 3, 3));
        due("11: MARK is 1 by 3", x.told(3, 9), 2);
    }

    private static void toldAll(TimesByPowers x, int place, int[] want) {
        for (int what = 0; what < want.length; what++) {
            due("11: told(" + place + ", " + what + ")", x.told(place, what), want[what]);
        }
    }

    private static void acts() {
        TimesByPowers x = new TimesByPowers(3, 2);
        due("12: empty", x.acts(0, 0, 0), NULL);
        due("12: place 10", x.acts(10, 0, 0), BAD);
        due("12: a -1", x.acts(0, -1, 0), BAD);
        due("12: a 3 to the 7", x.acts(0, 2187, 0), BAD);
        due("12: a at its most", x.acts(0, 2186, 0), NULL);
        due("12: z 9", x.acts(0, 0, 9), BAD);
        due("12: z -1", x.acts(0, 0, -1), BAD);
        for (int z = 0; z < 9; z++) {
            actsOn(z);
        }
    }

    /** On a new object each, since one is good for 512 calls only. */
    private static void actsOn(int z) {
        TimesByPowers x = new TimesByPowers(3, 2);
        put(x, 0, 4, 5, 1, 7);
        due("12: 0", x.acts(0, 0, z), 0);
        due("12: 2 as itself", x.acts(0, 2, z), x.field(2, z, 1));
        int t = x.acts(0, 3, z);
        due("12: T by its sum", t, bySum(x, 0, 3, z));
        due("12: T T", x.acts(0, 9, z), x.acts(0, 3, t));
        due("12: T T + 2", x.acts(0, 11, z), x.field(x.acts(0, 9, z), x.acts(0, 2, z), 0));
        due("12: degree 6 by its sum", x.acts(0, 2186, z), bySum(x, 0, 2186, z));
    }

    private static int bySum(TimesByPowers x, int place, int a, int z) {
        int made = 0;
        int power = z;
        for (int k = 0; k <= 18; k++) {
            made = x.field(made, x.field(x.sum(place, a, k), power, 1), 0);
            power = x.field(power, 3, 2);
        }
        return made;
    }

    private static void sum() {
        TimesByPowers x = new TimesByPowers(2, 2);
        due("13: empty", x.sum(0, 0, -1), NULL);
        due("13: place 10", x.sum(10, 0, 0), BAD);
        due("13: a 128", x.sum(0, 128, 0), BAD);
        due("13: a -1", x.sum(0, -1, 0), BAD);
        due("13: k -2", x.sum(0, 0, -2), BAD);
        due("13: k MIN", x.sum(0, 0, MIN), BAD);
        due("13: k NONE", x.sum(0, 0, NONE), BAD);
        // (2 + Y)(2 + Y) = 2 2 + (2 + 2 2) Y + Y Y = 3 + Y + Y Y.
        put(x, 0, 2, 1);
        int[] square = {3, 1, 1, 0};
        for (int k = 0; k < 4; k++) {
            due("13: T T, number " + k, x.sum(0, 4, k), square[k]);
        }
        due("13: T T + T", x.sum(0, 6, 0), 1);
        due("13: T T + T, number 1", x.sum(0, 6, 1), 0);
        due("13: LENGTH of T T", x.sum(0, 4, -1), 2);
        due("13: LENGTH of 0", x.sum(0, 0, -1), -1);
        due("13: LENGTH of 1", x.sum(0, 1, -1), 0);
        due("13: beyond", x.sum(0, 127, 7), 0);
        due("13: far beyond", x.sum(0, 127, MAX), 0);
        put(x, 1, 1, 2, 3, 1);
        due("13: LENGTH at its most", x.sum(1, 127, -1), 18);
        CHECK.holds("13: its last number", x.sum(1, 127, 18) > 0);
        due("13: behind that", x.sum(1, 127, 19), 0);
        put(x, 2, 1, 3);
        due("13: another world anew", x.sum(2, 127, -1), 6);
    }

    private static void order() {
        TimesByPowers x = new TimesByPowers(2, 2);
        due("14: empty", x.order(0, 0), NULL);
        due("14: place 10", x.order(10, 0), BAD);
        due("14: z 4", x.order(0, 4), BAD);
        due("14: z -1", x.order(0, -1), BAD);
        put(x, 0, 2, 1);
        due("14: of 0", x.order(0, 0), 1);
        due("14: of 1", x.order(0, 1), 6);
        due("14: of 2, which T takes to 0", x.order(0, 2), 2);
        due("14: of 3, which T leaves", x.order(0, 3), 3);
        TimesByPowers y = new TimesByPowers(5, 3);
        put(y, 0, 33, 7, 100);
        for (int z = 0; z < 125; z++) {
            due("14: it takes z to 0", y.acts(0, y.order(0, z), z), 0);
        }
    }

    private static void kernel() {
        TimesByPowers x = new TimesByPowers(2, 2);
        due("15: empty", x.kernel(0, 0, 0), NULL);
        due("15: place -1", x.kernel(-1, 0, 0), BAD);
        due("15: a 128", x.kernel(0, 128, 0), BAD);
        due("15: a -1", x.kernel(0, -1, NONE), BAD);
        put(x, 0, 2, 1);
        due("15: how many of T", x.kernel(0, 2, NONE), 2);
        due("15: the first", x.kernel(0, 2, 0), 0);
        due("15: the second", x.kernel(0, 2, 1), 2);
        due("15: no third", x.kernel(0, 2, 2), NONE);
        due("15: no such one", x.kernel(0, 2, -1), NONE);
        due("15: of T + 1", x.kernel(0, 3, 1), 3);
        due("15: of 1", x.kernel(0, 1, NONE), 1);
        due("15: of 0", x.kernel(0, 0, NONE), 4);
        for (int z = 0; z < 4; z++) {
            due("15: all of it", x.kernel(0, 0, z), z);
        }
        due("15: at its most", x.kernel(0, 0, MAX), NONE);
        kernelInOrder();
    }

    private static void kernelInOrder() {
        TimesByPowers y = new TimesByPowers(3, 3);
        put(y, 0, 0, 1);
        // T = Y: Y - 1 leaves the numbers modulo 3; T T T - 1 leaves all.
        due("15: of T + 2", y.kernel(0, 5, NONE), 3);
        due("15: of T T T + 2", y.kernel(0, 29, NONE), 27);
        int found = 0;
        for (int z = 0; z < 27; z++) {
            if (y.acts(0, 13, z) == 0) {
                due("15: by their codes", y.kernel(0, 13, found), z);
                found++;
            }
        }
        due("15: of T T + T + 1", y.kernel(0, 13, NONE), found);
        due("15: of them", found, 9);
    }

    private static void back() {
        TimesByPowers x = new TimesByPowers(2, 2);
        due("16: place 10", x.back(10, 0, 0, 1, 0), BAD);
        due("16: row 8", x.back(0, 8, 0, 1, 0), BAD);
        due("16: l 0", x.back(0, 0, 0, 0, 0), BAD);
        due("16: l 5", x.back(0, 0, 0, 5, 0), BAD);
        due("16: k -3", x.back(0, 0, 0, 1, -3), BAD);
        due("16: empty", x.back(0, 0, 9, 1, 0), NULL);
        put(x, 0, 2, 1);
        x.drop(7);
        due("16: missing row", x.back(0, 7, 0, 1, 0), NULL);
        numbers(x, 2, 1, 0, 4);
        due("16: i beyond", x.back(0, 7, 3, 1, 0), PLACE);
        due("16: i below 0", x.back(0, 7, -1, 1, 0), PLACE);
        due("16: u(l) is 0", x.back(0, 7, 1, 1, 0), BAD);
        due("16: u(0) is 0", x.back(0, 7, 2, 1, 0), BAD);
        due("16: no element", x.back(0, 7, 1, 2, 0), BAD);
        // u is t: T itself is 1 behind it.
        due("16: the POLYNOMIAL", x.back(0, 7, 0, 1, -2), 2);
        due("16: LENGTH of v", x.back(0, 7, 0, 1, -1), 0);
        due("16: v(0)", x.back(0, 7, 0, 1, 0), 1);
        due("16: v(1)", x.back(0, 7, 0, 1, 1), 0);
        due("16: v far beyond", x.back(0, 7, 0, 1, MAX), 0);
        // 1 + Y leads to none, and yet has a way back.
        numbers(x, 1, 1);
        due("16: it leads to none", x.map(1, 0, 7, 0, 1), NONE);
        CHECK.holds("16: a way back", x.back(0, 7, 0, 1, -2) > 1);
        noWayBack();
    }

    /** In a large field most sums of powers of four terms divide no small polynomial. */
    private static void noWayBack() {
        TimesByPowers x = new TimesByPowers(5, 6);
        put(x, 0, 7, 1);
        numbers(x, 1, 0, 0, 77, 5);
        due("16: none of degree 4", x.back(0, 7, 0, 4, -2), NONE);
        due("16: no LENGTH", x.back(0, 7, 0, 4, -1), NONE);
        due("16: no v(0)", x.back(0, 7, 0, 4, 0), NONE);
        due("16: status", x.status(), 0);
    }

    private static void alike() {
        TimesByPowers x = new TimesByPowers(3, 2);
        due("17: places", x.alike(10, 0), BAD);
        due("17: places", x.alike(0, -1), BAD);
        due("17: empty", x.alike(0, 1), NULL);
        put(x, 0, 5, 1, 7);
        due("17: b empty", x.alike(0, 1), NULL);
        due("17: a empty", x.alike(1, 0), NULL);
        due("17: to itself", x.alike(0, 0), 1);
        for (int c = 1; c < 9; c++) {
            x.turn(1, 0, c);
            due("17: turned", x.alike(0, 1), 1);
            due("17: and back", x.alike(1, 0), 1);
        }
        put(x, 2, 4, 1, 7);
        due("17: another t(0)", x.alike(0, 2), 0);
        put(x, 3, 5, 1);
        due("17: another r", x.alike(0, 3), 0);
        due("17: another r", x.alike(3, 0), 0);
        // c c takes t(1) to squares times itself alone: 1 never to 4, a generator.
        put(x, 4, 5, 4);
        due("17: no c", x.alike(3, 4), 0);
        put(x, 4, 5, 2);
        due("17: 2 is 3 3", x.alike(3, 4), 1);
        put(x, 5, 5, 0, 7);
        due("17: a number that is 0", x.alike(0, 5), 0);
    }

    private static void stays() {
        TimesByPowers x = new TimesByPowers(3, 2);
        due("18: place 10", x.stays(10), BAD);
        due("18: empty", x.stays(0), NULL);
        put(x, 0, 5, 1, 7);
        due("18: c c = 1", x.stays(0), 2);
        put(x, 0, 5, 0, 7);
        due("18: c to the 8 = 1", x.stays(0), 8);
        TimesByPowers y = new TimesByPowers(2, 6);
        put(y, 0, 5, 0, 7);
        due("18: c to the 3 = 1", y.stays(0), 3);
        put(y, 0, 5, 0, 0, 7);
        due("18: c to the 7 = 1", y.stays(0), 7);
        put(y, 0, 5, 0, 1, 7);
        due("18: both", y.stays(0), 1);
    }

    private static TimesByPowers kinds() {
        TimesByPowers x = new TimesByPowers(2, 3);
        put(x, 1, 5, 1);
        put(x, 2, 5, 1, 1);
        put(x, 3, 0, 0, 1);
        put(x, 4, 5, 0, 0, 1);
        return x;
    }

    private static void kind() {
        TimesByPowers x = kinds();
        due("19: kind(-1)", x.kind(-1), BAD);
        due("19: kind(10)", x.kind(10), BAD);
        due("19: kind(0)", x.kind(0), NULL);
        for (int k = 1; k <= 4; k++) {
            due("19: kind(" + k + ")", x.kind(k), k);
        }
    }

    private static void is() {
        TimesByPowers x = kinds();
        int[][] want = {{0, 0, 0, 0, 0}, {1, 1, 0, 0, 0}, {1, 0, 1, 0, 0}, {1, 0, 1, 1, 0},
            {1, 0, 0, 0, 1}};
        for (int place = 0; place < 5; place++) {
            for (int kind = 0; kind < 5; kind++) {
                due("20: is(" + place + ", " + kind + ")", x.is(place, kind), want[place][kind]);
            }
        }
        due("20: is(10, 0)", x.is(10, 0), BAD);
        due("20: is(-1, 0)", x.is(-1, 0), BAD);
        due("20: is(1, 5)", x.is(1, 5), BAD);
        due("20: is(0, -1)", x.is(0, -1), BAD);
    }

    private static void as() {
        TimesByPowers x = kinds();
        int[][] want = {{NULL, NULL, NULL, NULL, NULL}, {1, 1, KIND, KIND, KIND},
            {2, KIND, 2, KIND, KIND}, {2, KIND, 2, 2, KIND}, {3, KIND, KIND, KIND, 3}};
        for (int place = 0; place < 5; place++) {
            for (int kind = 0; kind < 5; kind++) {
                due("21: as(" + place + ", " + kind + ")", x.as(place, kind), want[place][kind]);
            }
        }
        due("21: as(10, 0)", x.as(10, 0), BAD);
        due("21: as(0, 5)", x.as(0, 5), BAD);
        due("21: as(0, -1)", x.as(0, -1), BAD);
    }

    private static void asked(TimesByPowers x, int place, int what, int want, int... bodies) {
        String name = "22: ask(" + place + ", " + what + ")";
        due(name, x.ask(place, what), want);
        for (int k = 0; k <= bodies.length; k++) {
            due(name + " trace(" + k + ")", x.trace(k), k < bodies.length ? bodies[k] : NONE);
        }
    }

    private static void ask() {
        TimesByPowers x = kinds();
        asked(x, 1, 0, 1, 10);
        asked(x, 2, 0, 12, 11, 10);
        asked(x, 3, 0, 24, 12, 11, 10);
        asked(x, 4, 0, 8, 13, 10, 20);
        asked(x, 1, 1, 6, 23, 20, 10);
        asked(x, 2, 1, 6, 21, 20);
        asked(x, 3, 1, 1, 22, 21, 20);
        asked(x, 4, 1, 5, 20);
        due("22: ask(10, 0)", x.ask(10, 0), BAD);
        due("22: ask(0, 2)", x.ask(0, 2), BAD);
        due("22: ask(0, -1)", x.ask(0, -1), BAD);
        due("22: BAD leaves the trace", x.trace(0), 20);
        asked(x, 0, 1, NULL);
        asked(x, 0, 0, NULL);
        // STEEP with OWN of degree 3: d is 3.
        TimesByPowers y = new TimesByPowers(2, 3);
        for (int t1 = 0; t1 < 8; t1++) {
            for (int t2 = 1; t2 < 8; t2++) {
                if (put(y, 0, 2, t1, t2) == 3) {
                    asked(y, 0, 1, 2 + y.told(0, 9) + 3, 22, 21, 20);
                    return;
                }
            }
        }
        CHECK.holds("22: a STEEP world with d 3", false);
    }

    private static void trace() {
        TimesByPowers x = kinds();
        due("23: at first", x.trace(0), NONE);
        x.ask(3, 1);
        due("23: trace(0)", x.trace(0), 22);
        due("23: trace(2)", x.trace(2), 20);
        due("23: trace(3)", x.trace(3), NONE);
        due("23: trace(-1)", x.trace(-1), NONE);
        due("23: trace(MIN)", x.trace(MIN), NONE);
        due("23: trace(16)", x.trace(16), NONE);
        due("23: trace(MAX)", x.trace(MAX), NONE);
        x.told(3, 7);
        x.kind(3);
        due("23: other calls leave it", x.trace(1), 21);
        x.ask(1, 0);
        due("23: anew", x.trace(0), 10);
        due("23: the old ones are gone", x.trace(1), NONE);
    }

    private static void count() {
        TimesByPowers x = kinds();
        put(x, 9, 0, 0, 1);
        int[] want = {1, 5, 1, 3, 2, 1, 8, 11};
        for (int what = 0; what < 8; what++) {
            due("24: count(" + what + ")", x.count(what), want[what]);
        }
        due("24: count(8)", x.count(8), BAD);
        due("24: count(-1)", x.count(-1), BAD);
        x.clear(9);
        x.clear(1);
        x.row(0, 0, 0);
        due("24: fewer worlds", x.count(1), 3);
        due("24: no line", x.count(2), 0);
        due("24: more rows", x.count(0), 2);
    }

    private static void status() {
        TimesByPowers x = new TimesByPowers(2, 3);
        due("25: at first", x.status(), 0);
        x.kind(0);
        due("25: NULL", x.status(), 1);
        x.clear(0);
        x.is(0, 0);
        x.count(0);
        x.trace(0);
        x.field(1, 1, 0);
        due("25: calls that leave it", x.status(), 1);
        x.kind(10);
        x.row(0, 9, 1);
        x.field(9, 9, 9);
        due("25: BAD leaves it", x.status(), 1);
        x.row(0, 0, 3);
        due("25: a row", x.status(), 0);
        x.set(0, 3, 0);
        due("25: PLACE", x.status(), 2);
        x.world(0, 0, 0, 1);
        due("25: late BAD leaves it", x.status(), 2);
        x.set(0, 2, 1);
        x.world(0, 0, 1, 1);
        due("25: a world", x.status(), 0);
        x.told(0, 9);
        due("25: KIND", x.status(), 3);
        x.kernel(0, 1, 5);
        due("25: NONE is no finding", x.status(), 0);
        x.as(0, 4);
        due("25: KIND of as()", x.status(), 3);
        x.row(1, 1, -2);
        due("25: SIZE", x.status(), 4);
        x.row(1, 1, 2);
        x.copy(0, 0, 1, 0, 1);
        due("25: STORE", x.status(), 5);
        everyCallResets(x);
    }

    /** Each call with a ROW or a place that finds nothing makes it 0 again. */
    private static void everyCallResets(TimesByPowers x) {
        for (int call = 0; call < 18; call++) {
            x.row(0, 2, 3);
            x.set(0, 0, 1);
            x.set(0, 1, 1);
            x.world(0, 0, 0, 1);
            x.kind(9);
            due("25: ahead of call " + call, x.status(), 1);
            fineCall(x, call);
            due("25: after call " + call, x.status(), 0);
        }
    }

    private static int fineCall(TimesByPowers x, int call) {
        return switch (call) {
            case 0 -> x.row(1, 0, 0);
            case 1 -> x.set(0, 2, 0);
            case 2 -> x.copy(0, 0, 0, 1, 0);
            case 3 -> x.drop(0);
            case 4 -> x.world(1, 0, 0, 1);
            case 5 -> x.turn(1, 0, 3);
            case 6 -> x.map(1, 0, 0, 0, 1);
            case 7 -> x.told(0, 7);
            case 8 -> x.acts(0, 1, 1);
            case 9 -> x.sum(0, 1, 0);
            case 10 -> x.order(0, 1);
            case 11 -> x.kernel(0, 1, 0);
            case 12 -> x.back(0, 0, 0, 1, 0);
            case 13 -> x.alike(0, 0);
            case 14 -> x.stays(0);
            case 15 -> x.kind(0);
            case 16 -> x.as(0, 0);
            default -> x.ask(0, 0);
        };
    }
}
