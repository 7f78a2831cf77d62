import java.util.Random;

/** Runs of calls that a seeded source picks, on the program and on the model. */
public final class ModelTest {
    private static final int[] WILD = {
        -1000000, -1000001, Integer.MIN_VALUE, Integer.MAX_VALUE, -3, -2, -1, 0, 1, 2, 3, 4, 5,
        6, 7, 8, 9, 10, 15, 16, 23, 24, 25, 100000, 100001
    };

    private final Random random;
    private final Both both;
    private final int p;
    private final int q;

    private ModelTest(Check check, int p, int n, long seed) {
        random = new Random(seed);
        both = new Both(check, p, n);
        this.p = both.model.p;
        q = both.model.q;
    }

    public static void main(String[] args) {
        Check check = new Check();
        int[] primes = {2, 3, 5};
        for (int p : primes) {
            for (int n = 1; n <= 6; n++) {
                int runs = Model.pow(p, n) < 300 ? 60 : Model.pow(p, n) < 1000 ? 25 : 6;
                for (int k = 0; k < runs; k++) {
                    new ModelTest(check, p, n, 1000L * k + 10 * p + n).run();
                }
            }
        }
        int[][] wrong = {{0, 2}, {7, 3}, {-5, 0}, {4, -1}, {3, 7}, {5, -9}, {1, 100}};
        for (int[] given : wrong) {
            new ModelTest(check, given[0], given[1], given[0] * 31L + given[1]).run();
        }
        check.end("ModelTest");
    }

    private void run() {
        for (int k = 0; k < 4; k++) {
            newWorld();
        }
        while (both.hasCallsLeft()) {
            int what = random.nextInt(100);
            if (what < 12) {
                newWorld();
            } else if (what < 22) {
                tryMap();
            } else if (what < 26) {
                rowWork();
            } else if (what < 36) {
                wildCall();
            } else {
                askSome();
            }
            if (random.nextInt(3) == 0) {
                both.ask("status");
            }
        }
    }

    private int below(int bound) {
        return random.nextInt(bound);
    }

    /** Now and then an element of the numbers modulo p, so that small OWNS come up. */
    private int element() {
        int what = below(6);
        return what == 0 ? 0 : what == 1 ? below(p) : below(q);
    }

    private int polynomial() {
        return below(Model.pow(p, 1 + below(7)));
    }

    private int exampleOf(int bound) {
        return below(12) == 0 ? WILD[below(WILD.length)] : below(bound);
    }

    private void newWorld() {
        int r = 1 + below(3);
        int row = below(8);
        int i = below(3);
        both.ask("row", row, 1 + below(2), r + 1 + i + below(2));
        for (int k = 0; k <= r; k++) {
            boolean flat = k > 0 && k < r && below(3) == 0;
            both.ask("set", row, i + k, flat ? 0 : element());
        }
        if (below(3) != 0) {
            both.ask("set", row, i + r, 1 + below(q - 1));
        }
        both.ask("world", below(10), row, i, r);
    }

    private void tryMap() {
        int place = below(10);
        int r = both.ask("told", place, 0);
        int row = below(8);
        int l = 1 + below(4);
        both.ask("row", row, 1 + below(2), l + 1);
        if (r > 0 && below(3) == 0) {
            // What a POLYNOMIAL acts by leads a WORLD to itself.
            int a = p + below(p * p - p);
            l = both.ask("sum", place, a, -1);
            both.ask("row", row, 2, Math.max(0, l) + 1);
            for (int k = 0; k <= l; k++) {
                both.ask("set", row, k, both.model.sum(place, a, k));
            }
        } else {
            for (int k = 0; k <= l; k++) {
                both.ask("set", row, k, k == 0 || k == l ? 1 + below(q - 1) : element());
            }
        }
        both.ask("map", below(10), place, row, 0, l);
        both.ask("back", place, row, 0, l, -2);
        both.ask("back", place, row, 0, l, -1);
        both.ask("back", place, row, 0, l, below(13));
    }

    private void rowWork() {
        int row = below(8);
        int size = below(25);
        both.ask("row", row, below(3), size);
        both.ask("set", row, below(25), random.nextInt());
        both.ask("set", row, below(25), random.nextInt(600) - 300);
        both.ask("copy", row, below(12), below(2) == 0 ? row : below(8), below(12), below(8));
        both.ask("copy", below(8), below(12), below(8), below(12), below(8));
        for (int k = 0; k < 3; k++) {
            // A copy is seen by what world() makes of the ITEMS.
            both.ask("world", 9, row, below(24), 1 + below(3));
        }
        if (below(4) == 0) {
            both.ask("drop", below(8));
        }
    }

    private void askSome() {
        int place = below(10);
        switch (below(15)) {
            case 0 -> both.ask("told", place, below(10));
            case 1 -> both.ask("acts", place, polynomial(), below(q));
            case 2 -> both.ask("sum", place, polynomial(), below(20) - 1);
            case 3 -> both.ask("order", place, below(q));
            case 4 -> askKernel(place);
            case 5 -> askAlike(place);
            case 6 -> both.ask("stays", place);
            case 7 -> both.ask("kind", place);
            case 8 -> both.ask("is", place, below(5));
            case 9 -> both.ask("as", place, below(5));
            case 10 -> {
                both.ask("ask", place, below(2));
                both.ask("trace", below(5));
            }
            case 11 -> both.ask("count", below(8));
            case 12 -> both.ask("clear", place);
            case 13 -> both.ask("turn", below(10), place, 1 + below(q - 1));
            default -> both.ask("field", below(q), below(q), below(4));
        }
    }

    private void askKernel(int place) {
        int a = below(3) == 0 ? Math.max(0, both.ask("order", place, below(q))) : polynomial();
        int many = both.ask("kernel", place, a, Model.NONE);
        both.ask("kernel", place, a, below(Math.max(1, many) + 1));
        both.ask("kernel", place, a, many - 1);
    }

    private void askAlike(int place) {
        int other = below(10);
        if (below(2) == 0) {
            both.ask("turn", other, place, 1 + below(q - 1));
        }
        both.ask("alike", place, other);
    }

    private void wildCall() {
        switch (below(20)) {
            case 0 -> both.ask("row", exampleOf(8), exampleOf(3), exampleOf(25));
            case 1 -> both.ask("set", exampleOf(8), exampleOf(24), exampleOf(q));
            case 2 -> both.ask("copy", exampleOf(8), exampleOf(10), exampleOf(8), exampleOf(10),
                exampleOf(10));
            case 3 -> both.ask("drop", exampleOf(8));
            case 4 -> both.ask("field", exampleOf(q), exampleOf(q), exampleOf(4));
            case 5 -> both.ask("world", exampleOf(10), exampleOf(8), exampleOf(4), exampleOf(4));
            case 6 -> both.ask("turn", exampleOf(10), exampleOf(10), exampleOf(q));
            case 7 -> both.ask("map", exampleOf(10), exampleOf(10), exampleOf(8), exampleOf(3),
                exampleOf(5));
            case 8 -> both.ask("clear", exampleOf(10));
            case 9 -> both.ask("told", exampleOf(10), exampleOf(10));
            case 10 -> both.ask("acts", exampleOf(10), exampleOf(Model.pow(p, 7) + 1), exampleOf(q));
            case 11 -> both.ask("sum", exampleOf(10), exampleOf(Model.pow(p, 7) + 1), exampleOf(20));
            case 12 -> both.ask("order", exampleOf(10), exampleOf(q + 1));
            case 13 -> both.ask("kernel", exampleOf(10), exampleOf(Model.pow(p, 7) + 1), exampleOf(q));
            case 14 -> both.ask("back", exampleOf(10), exampleOf(8), exampleOf(3), exampleOf(5),
                exampleOf(12));
            case 15 -> both.ask("alike", exampleOf(10), exampleOf(10));
            case 16 -> both.ask("is", exampleOf(10), exampleOf(5));
            case 17 -> both.ask("as", exampleOf(10), exampleOf(5));
            case 18 -> both.ask("ask", exampleOf(10), exampleOf(2));
            default -> {
                both.ask("kind", exampleOf(10));
                both.ask("stays", exampleOf(10));
                both.ask("trace", exampleOf(4));
                both.ask("count", exampleOf(8));
            }
        }
    }
}
